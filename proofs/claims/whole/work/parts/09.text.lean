/-! THE REFERENCE's TEXT: its length and its characters -/
def qc_wd : List Int32 := [98, 97, 110, 100, 32, 103, 117, 97, 114, 100, 32, 115, 112, 97, 99, 101, 32, 111, 114, 100, 101, 114, 115, 32, 108, 111, 115, 115, 32, 117, 115, 101, 114, 32, 102, 105, 120, 101, 100, 32, 98, 108, 111, 99, 107, 32, 108, 105, 110, 107, 32, 115, 108, 111, 116, 115, 32, 115, 101, 101, 100, 32]
def qc_ch (k : Nat) : Int32 := qc_wd.getD k 0
theorem qc_ch_ok : ∀ k, k < 62 → ((((qc_tb.getD 2 []).getD k 0) &&& 255).toUInt32 % 65536).toInt32 = qc_ch k ∧ narrow .char (.int (qc_ch k)) = .int (qc_ch k) := by decide +kernel
section QTX
variable {F : qc_F} {cc : ByteArray} {own nm : String} {rF rC rS rL cells slots pc : Nat} {ls : List (Option Value)} {st : List Value} {h : qc_Pl}
theorem qj_ldct (cx : qc_X F cc RX7 nm rF rC rS rL) (hd : decode cc pc = .ok (.ldc 135, 2)) (hRO : qc_n h ≤ qc_RO) (k : qc_J F cells slots (pc + 2) ls (.ref (qc_RO + 10 + 2) :: st) h) : qc_J F cells slots pc ls st h := by
  obtain ⟨p, l, e, R, s, m, args, below, meth, c, nL, D, ca, A, n0, ad0, Q⟩ := F
  obtain ⟨hx, hb, hml, hown, hts, hlocks, hG, hroom, hnm⟩ := cx
  intro ad H locs la hw hS ha hl
  have ea : ad (qc_RO + 10 + 2) = ad0 (qc_RO + 10 + 2) := ha _ (by omega)
  have hR := (hG.2.2.2.2.2.2.1.1 2 (by decide)).2
  rw [← ea] at hR
  exact va_ldcS hx hb hown hR hd (k ad H locs la hw hS ha hl)
theorem qj_tco (cx : qc_X F cc RJ0 nm rF rC rS rL) (hd : decode cc pc = .ok (.getfield 15, 3)) (hRO : qc_n h ≤ qc_RO) (k : qc_J F cells slots (pc + 3) ls (.int 0 :: st) h) : qc_J F cells slots pc ls (.ref (qc_RO + 10 + 2) :: st) h := by
  obtain ⟨p, l, e, R, s, m, args, below, meth, c, nL, D, ca, A, n0, ad0, Q⟩ := F
  obtain ⟨hx, hb, hml, hown, hts, hlocks, hG, hroom, hnm⟩ := cx
  intro ad H locs la hw hS ha hl
  have ea : ad (qc_RO + 10 + 2) = ad0 (qc_RO + 10 + 2) := ha _ (by omega)
  have hR := (hG.2.2.2.2.2.2.1.1 2 (by decide)).1.2.1
  rw [← ea] at hR
  exact vk_getf hx hb hR hS hown (hts _ ww_1775) (fun _ z => z) hd (k ad H locs la hw hS ha hl)
theorem qj_tva (cx : qc_X F cc RJ0 nm rF rC rS rL) (hd : decode cc pc = .ok (.getfield 9, 3)) (hRO : qc_n h ≤ qc_RO) (k : qc_J F cells slots (pc + 3) ls (.ref (qc_RO + 20 + 2) :: st) h) : qc_J F cells slots pc ls (.ref (qc_RO + 10 + 2) :: st) h := by
  obtain ⟨p, l, e, R, s, m, args, below, meth, c, nL, D, ca, A, n0, ad0, Q⟩ := F
  obtain ⟨hx, hb, hml, hown, hts, hlocks, hG, hroom, hnm⟩ := cx
  intro ad H locs la hw hS ha hl
  have ea : ad (qc_RO + 10 + 2) = ad0 (qc_RO + 10 + 2) := ha _ (by omega)
  have eb : ad (qc_RO + 20 + 2) = ad0 (qc_RO + 20 + 2) := ha _ (by omega)
  have hR := (hG.2.2.2.2.2.2.1.1 2 (by decide)).1.2.2.1
  rw [← ea, ← eb] at hR
  exact vk_getf hx hb hR hS hown (hts _ ww_1774) (fun _ z => z) hd (k ad H locs la hw hS ha hl)
theorem qj_tal (cx : qc_X F cc own nm rF rC rS rL) (hd : decode cc pc = .ok (.arraylength, 1)) (hRO : qc_n h ≤ qc_RO) (k : qc_J F cells slots (pc + 1) ls (.int 62 :: st) h) : qc_J F cells slots pc ls (.ref (qc_RO + 20 + 2) :: st) h := by
  obtain ⟨p, l, e, R, s, m, args, below, meth, c, nL, D, ca, A, n0, ad0, Q⟩ := F
  obtain ⟨hx, hb, hml, hown, hts, hlocks, hG, hroom, hnm⟩ := cx
  intro ad H locs la hw hS ha hl
  have eb : ad (qc_RO + 20 + 2) = ad0 (qc_RO + 20 + 2) := ha _ (by omega)
  have hR := (hG.2.2.2.2.2.2.1.1 2 (by decide)).1.2.2.2
  rw [← eb] at hR
  obtain ⟨cell, h1, h2, h3, h4, h5, h6, h7⟩ := hR.kept hS.2.1
  exact W.alen (n := 62) hx hb h1 h2 h5 rfl rfl hd (k ad H locs la hw hS ha hl)
theorem qj_tba {i : Int32} (cx : qc_X F cc own nm rF rC rS rL) (hd : decode cc pc = .ok (.baload, 1)) (hRO : qc_n h ≤ qc_RO) (hin : qc_in i 62) (k : qc_J F cells slots (pc + 1) ls (.int ((qc_tb.getD 2 []).getD i.toNatClampNeg 0) :: st) h) : qc_J F cells slots pc ls (.int i :: .ref (qc_RO + 20 + 2) :: st) h := by
  obtain ⟨p, l, e, R, s, m, args, below, meth, c, nL, D, ca, A, n0, ad0, Q⟩ := F
  obtain ⟨hx, hb, hml, hown, hts, hlocks, hG, hroom, hnm⟩ := cx
  intro ad H locs la hw hS ha hl
  have eb : ad (qc_RO + 20 + 2) = ad0 (qc_RO + 20 + 2) := ha _ (by omega)
  have hR := (hG.2.2.2.2.2.2.1.1 2 (by decide)).1.2.2.2
  rw [← eb] at hR
  exact va_tb hx hb hR hS hin rfl hd (k ad H locs la hw hS ha hl)
theorem qj_tcs (cx : qc_X F cc RJ0 nm rF rC rS rL) (hd : decode cc pc = .ok (.getstatic 38, 3)) (k : qc_J F cells slots (pc + 3) ls (.int 1 :: st) h) : qc_J F cells slots pc ls st h := by
  obtain ⟨p, l, e, R, s, m, args, below, meth, c, nL, D, ca, A, n0, ad0, Q⟩ := F
  obtain ⟨hx, hb, hml, hown, hts, hlocks, hG, hroom, hnm⟩ := cx
  intro ad H locs la hw hS ha hl
  exact va_gets hx hb hG.2.2.2.2.2.2.1.2.1 hS hown (hts _ ww_1272) (fun _ z => z) hd (k ad H locs la hw hS ha hl)
theorem qj_tsi (cx : qc_X F cc RJ0 nm rF rC rS rL) (hd : decode cc pc = .ok (.getstatic 1053, 3)) (hRO : qc_n h ≤ qc_RO) (k : ∀ v : Value, v = .null ∨ v = .ref (qc_RO + 29) → qc_J F cells slots (pc + 3) ls (v :: st) h) : qc_J F cells slots pc ls st h := by
  obtain ⟨p, l, e, R, s, m, args, below, meth, c, nL, D, ca, A, n0, ad0, Q⟩ := F
  obtain ⟨hx, hb, hml, hown, hts, hlocks, hG, hroom, hnm⟩ := cx
  intro ad H locs la hw hS ha hl
  have ea : ad (qc_RO + 29) = ad0 (qc_RO + 29) := ha _ (by omega)
  rcases hG.2.2.2.2.2.2.1.2.2 with z | z
  · exact va_gets hx hb z hS hown (hts _ ww_1288) (fun _ z => z) hd (k .null (Or.inl rfl) ad H locs la hw hS ha hl)
  · rw [← ea] at z
    exact va_gets hx hb z hS hown (hts _ ww_1288) (fun _ z => z) hd (k (.ref (qc_RO + 29)) (Or.inr rfl) ad H locs la hw hS ha hl)
variable {st0 : List Value} {h' : qc_Pl} {y : MethodName} {code1 : ByteArray} {maxL : Nat} {ret : Option FieldType} {rF1 rL1 n idx : Nat} {As : List Value} {r : Option Value}
/-- a call of a text's method -/
theorem qj_callT (cx : qc_X F cc own nm rF rC rS rL) (hd : decode cc pc = .ok (.invokevirtual idx, 3)) (hM : ∀ l, qc_M l y code1 maxL ret rF1 rL1 0 0 (.ref (qc_RO + 10 + 2) :: As) h r h) (hcw : qc_cV own idx RJ0 y) (hmw : qc_mw y code1 maxL ret n) (hyC : y.cls = RJ0) (hA : As.length = n) (hrm : rF1 + 1 ≤ rF ∧ 8 + (maxL + 11) + rL1 ≤ rL) (hce : cells ≤ rC ∧ slots ≤ rS) (hs0 : st0 = As.reverse ++ .ref (qc_RO + 10 + 2) :: st) (hsu : (st.map fun v => v.category).sum ≤ 8) (hRO : qc_n h ≤ qc_RO) (hn0 : F.2.2.2.2.2.2.2.2.2.2.2.2.2.2.1 ≤ qc_n h)
    (k : qc_J F cells slots (pc + 3) ls (r.toList ++ st) h) : qc_J F cells slots pc ls st0 h := by
  obtain ⟨p, l, e, R, s, m, args, below, meth, c, nL, D, ca, A, n0, ad0, Q⟩ := F
  obtain ⟨hx, hb, hml, hown, hts, hlocks, hG, hroom, hnm⟩ := cx
  subst hs0
  intro ad H locs la hw hS ha hl
  have ea : ad (qc_RO + 10 + 2) = ad0 (qc_RO + 10 + 2) := ha _ (by omega)
  have hO := (hG.2.2.2.2.2.2.1.1 2 (by decide)).1.1
  rw [← ea] at hO
  obtain ⟨cell, g1, g2, g3, -⟩ := hO.kept hS.2.1
  have hr := va_runV (l := l) (e := e) (R := R) (below := below) (meth := meth) (locs := locs) (cells := cells) (slots := slots) (g := F0 m pc la ((As.reverse ++ .ref (qc_RO + 10 + 2) :: st).map (qc_rv ad))) (rest := st.map (qc_rv ad)) (As := As.map (qc_rv ad)) (b := ad (qc_RO + 10 + 2)) ⟨hx, hb, hml, hown, hts⟩ (hM l D ca A ad) (cwV n hts (qc_goodV hcw hmw.1) rfl rfl rfl ⟨hyC, hmw.2⟩ ⟨by show rF1 + 1 ≤ R.frames; omega, by show 8 + (maxL + 11) + rL1 ≤ R.locals; omega⟩)
    ⟨qc_blind, ⟨cell, g1, g2, g3⟩, fun U hU hW => ⟨rfl, by rw [hU]; exact hw, hG.next hW (by rw [hU]; exact hS.1) (fun q h1 h2 => by rw [hU]; exact hS.2.1 q h1 h2) (fun i hi => ha _ (by omega))⟩⟩ rfl (by rw [List.length_map]; exact hA) hl.1 (by show List.map _ _ = _; rw [List.map_append, List.map_reverse]; rfl) (by show 2 * 0 + _ ≤ 8; rw [qc_cats]; omega) hd ⟨by omega, by omega⟩
  exact qc_back hr hS ha hl ⟨hn0, Nat.le_refl _⟩ (qc_tkl_nn _ _) (qc_tks_nn _ _) k
end QTX
theorem qt_coder {h : qc_Pl} (hRO : qc_n h ≤ qc_RO) : ∀ l, qc_M l yJ0_coder_7d493 cJ0_coder_7d493 1 (some .byte) 0 0 0 0 [.ref (qc_RO + 10 + 2)] h (some (.int 0)) h := by
  intro l
  refine qc_ent2 (by decide) (Nat.le_of_ble_eq_true rfl) ?_
  intro F hn0 cx hz
  have cx : qc_X F cJ0_coder_7d493 RJ0 "coder" 0 0 0 0 := cx
  show qc_J F 0 0 0 [some (.ref (qc_RO + 10 + 2))] [] h
  refine qj_tcs cx dJ0_coder_7d493_0 ?_
  refine qj_if_eq (tgt := 13) cx dJ0_coder_7d493_3 (by decide) (fun c => absurd c (by decide)) (fun c => ?_)
  refine qj_aload_n cx dJ0_coder_7d493_6 rfl rfl ?_
  refine qj_tco cx dJ0_coder_7d493_7 hRO ?_
  refine qj_goto (tgt := 14) cx dJ0_coder_7d493_10 (by decide) ?_
  exact qj_zret (st := []) cx hz dJ0_coder_7d493_14 (by decide) (Nat.zero_le _) (Nat.zero_le _)
theorem qt_latin {h : qc_Pl} (hRO : qc_n h ≤ qc_RO) : ∀ l, qc_M l yJ0_isLatin1_aae02 cJ0_isLatin1_aae02 1 (some .boolean) 0 0 0 0 [.ref (qc_RO + 10 + 2)] h (some (.int 1)) h := by
  intro l
  refine qc_ent2 (by decide) (Nat.le_of_ble_eq_true rfl) ?_
  intro F hn0 cx hz
  have cx : qc_X F cJ0_isLatin1_aae02 RJ0 "isLatin1" 0 0 0 0 := cx
  show qc_J F 0 0 0 [some (.ref (qc_RO + 10 + 2))] [] h
  refine qj_tcs cx dJ0_isLatin1_aae02_0 ?_
  refine qj_if_eq (tgt := 17) cx dJ0_isLatin1_aae02_3 (by decide) (fun c => absurd c (by decide)) (fun c => ?_)
  refine qj_aload_n cx dJ0_isLatin1_aae02_6 rfl rfl ?_
  refine qj_tco cx dJ0_isLatin1_aae02_7 hRO ?_
  refine qj_if_ne (tgt := 17) cx dJ0_isLatin1_aae02_10 (by decide) (fun c => absurd rfl c) (fun c => ?_)
  refine qj_iconst (v := 1) cx dJ0_isLatin1_aae02_13 (by decide) ?_
  refine qj_goto (tgt := 18) cx dJ0_isLatin1_aae02_14 (by decide) ?_
  exact qj_zret (st := []) cx hz dJ0_isLatin1_aae02_18 (by decide) (Nat.zero_le _) (Nat.zero_le _)
theorem gt_335 : qc_cV RJ0 335 RJ0 yJ0_coder_7d493 := ⟨ww_1268, ww_1269, ww_1270, ww_120⟩
theorem gt_492 : qc_cV RJ0 492 RJ0 yJ0_isLatin1_aae02 := ⟨ww_1278, ww_1279, ww_1280, ww_120⟩
theorem gt_495 : qc_cS RJ0 495 yJ1_charAt_3b067 := ⟨ww_1282, ww_1283, ww_121⟩
theorem gt_9 : qc_cS RJ1 9 yJ0_checkIndex_df160 := ⟨ww_1285, ww_1286, ww_120⟩
theorem gt_1059 : qc_cS RJ0 1059 yJ3_checkIndex_8e157 := ⟨ww_1290, ww_1291, ww_122⟩
theorem gt_137 : qc_cV RX7 137 RJ0 yJ0_length_8abf5 := ⟨ww_1264, ww_1265, ww_1266, ww_120⟩
theorem gt_142 : qc_cV RX7 142 RJ0 yJ0_charAt_5068e := ⟨ww_1274, ww_1275, ww_1276, ww_120⟩
theorem gm_coder : qc_mw yJ0_coder_7d493 cJ0_coder_7d493 1 (some .byte) 0 := ⟨ww_1271, by decide, by decide, by decide +kernel⟩
theorem gm_latin : qc_mw yJ0_isLatin1_aae02 cJ0_isLatin1_aae02 1 (some .boolean) 0 := ⟨ww_1281, by decide, by decide, by decide +kernel⟩
theorem gm_l1 : qc_mw yJ1_charAt_3b067 cJ1_charAt_3b067 2 (some .char) 2 := ⟨ww_1284, by decide, by decide, by decide +kernel⟩
theorem gm_ci : qc_mw yJ0_checkIndex_df160 cJ0_checkIndex_df160 2 none 2 := ⟨ww_1287, by decide, by decide, by decide +kernel⟩
theorem gm_pi : qc_mw yJ3_checkIndex_8e157 cJ3_checkIndex_8e157 3 (some .int) 3 := ⟨ww_1292, by decide, by decide, by decide +kernel⟩
theorem gm_length : qc_mw yJ0_length_8abf5 cJ0_length_8abf5 1 (some .int) 0 := ⟨ww_1267, by decide, by decide, by decide +kernel⟩
theorem gm_charAt : qc_mw yJ0_charAt_5068e cJ0_charAt_5068e 2 (some .char) 1 := ⟨ww_1277, by decide, by decide, by decide +kernel⟩
/-- length() -/
theorem qt_length {h : qc_Pl} (hRO : qc_n h ≤ qc_RO) : ∀ l, qc_M l yJ0_length_8abf5 cJ0_length_8abf5 1 (some .int) 1 20 0 0 [.ref (qc_RO + 10 + 2)] h (some (.int 62)) h := by
  intro l
  refine qc_ent2 (by decide) (Nat.le_of_ble_eq_true rfl) ?_
  intro F hn0 cx hz
  have cx : qc_X F cJ0_length_8abf5 RJ0 "length" 1 0 0 20 := cx
  show qc_J F 0 0 0 [some (.ref (qc_RO + 10 + 2))] [] h
  refine qj_aload_n cx dJ0_length_8abf5_0 rfl rfl ?_
  refine qj_tva cx dJ0_length_8abf5_1 hRO ?_
  refine qj_tal cx dJ0_length_8abf5_4 hRO ?_
  refine qj_aload_n cx dJ0_length_8abf5_5 rfl rfl ?_
  refine qj_callT (As := []) (st := [.int 62]) (r := some (.int 0)) cx dJ0_length_8abf5_6 (qt_coder hRO) gt_335 gm_coder rfl rfl (by decide) (by decide) rfl (Nat.le_of_ble_eq_true rfl) hRO hn0 ?_
  refine qj_ishr cx dJ0_length_8abf5_9 ?_
  refine qw_top (y := 62) (by decide) ?_
  exact qj_iret (st := []) cx hz dJ0_length_8abf5_10 (Nat.zero_le _) (Nat.zero_le _)
theorem qt_pi {h : qc_Pl} {i n : Int32} {v : Value} (hv : v = .null ∨ v = .ref (qc_RO + 29)) (h0 : 0 ≤ i) (h1 : i < n) : ∀ l, qc_M l yJ3_checkIndex_8e157 cJ3_checkIndex_8e157 3 (some .int) 0 0 0 0 [.int i, .int n, v] h (some (.int i)) h := by
  intro l
  refine qc_ent2 (by decide) (by rcases hv with rfl | rfl <;> exact (Nat.le_of_ble_eq_true rfl)) ?_
  intro F hn0 cx hz
  have cx : qc_X F cJ3_checkIndex_8e157 RJ3 "checkIndex" 0 0 0 0 := cx
  have hq : qc_J F 0 0 0 [some (.int i), some (.int n), some v] [] h := by
    refine qj_iload_n cx dJ3_checkIndex_8e157_0 rfl rfl ?_
    refine qj_if_lt (tgt := 9) cx dJ3_checkIndex_8e157_1 (by decide) (fun c => absurd c (Int32.not_lt.mpr h0)) (fun c => ?_)
    refine qj_iload_n cx dJ3_checkIndex_8e157_4 rfl rfl ?_
    refine qj_iload_n cx dJ3_checkIndex_8e157_5 rfl rfl ?_
    refine qj_icmp_lt (tgt := 16) cx dJ3_checkIndex_8e157_6 (by decide) (fun c => ?_) (fun c => absurd h1 c)
    refine qj_iload_n cx dJ3_checkIndex_8e157_16 rfl rfl ?_
    exact qj_iret (st := []) cx hz dJ3_checkIndex_8e157_17 (Nat.zero_le _) (Nat.zero_le _)
  rcases hv with rfl | rfl <;> exact hq
theorem qt_ci {h : qc_Pl} (hRO : qc_n h ≤ qc_RO) {i n : Int32} (h0 : 0 ≤ i) (h1 : i < n) : ∀ l, qc_M l yJ0_checkIndex_df160 cJ0_checkIndex_df160 2 none 1 22 0 0 [.int i, .int n] h none h := by
  intro l
  refine qc_ent2 (by decide) (Nat.le_of_ble_eq_true rfl) ?_
  intro F hn0 cx hz
  have cx : qc_X F cJ0_checkIndex_df160 RJ0 "checkIndex" 1 0 0 22 := cx
  show qc_J F 0 0 0 [some (.int i), some (.int n)] [] h
  refine qj_iload_n cx dJ0_checkIndex_df160_0 rfl rfl ?_
  refine qj_iload_n cx dJ0_checkIndex_df160_1 rfl rfl ?_
  refine qj_tsi cx dJ0_checkIndex_df160_2 hRO (fun v hv => ?_)
  refine qj_callS (As := [.int i, .int n, v]) (st := []) (h' := h) (r := some (.int i)) cx dJ0_checkIndex_df160_5 (qt_pi hv h0 h1) gt_1059 gm_pi rfl (by decide) (by decide) rfl (Nat.le_of_ble_eq_true rfl) hRO hn0 rfl ?_
  refine qj_pop cx dJ0_checkIndex_df160_8 rfl ?_
  exact qj_vret (st := []) cx hz dJ0_checkIndex_df160_9 (Nat.zero_le _) (Nat.zero_le _)
theorem qc_in_ge {i : Int32} {n : Nat} (h : qc_in i n) : 0 ≤ i := Int32.not_lt.mp fun q => h (Or.inl q)
theorem qc_in_62 {i : Int32} (h : qc_in i 62) : i < 62 := by
  have h1 := qc_in_ge h
  have h2 : i.toNatClampNeg < 62 := Nat.not_le.mp fun q => h (Or.inr q)
  rw [Int32.lt_iff_toInt_lt]
  have h3 : i.toInt.toNat = i.toNatClampNeg := rfl
  have h4 : (62 : Int32).toInt = 62 := by decide
  omega
theorem qt_l1 {h : qc_Pl} (hRO : qc_n h ≤ qc_RO) {i : Int32} (hin : qc_in i 62) : ∀ l, qc_M l yJ1_charAt_3b067 cJ1_charAt_3b067 2 (some .char) 2 43 0 0 [.ref (qc_RO + 20 + 2), .int i] h (some (.int (qc_ch i.toNatClampNeg))) h := by
  intro l
  refine qc_ent2 (by decide) (Nat.le_of_ble_eq_true rfl) ?_
  intro F hn0 cx hz
  have cx : qc_X F cJ1_charAt_3b067 RJ1 "charAt" 2 0 0 43 := cx
  have hk : i.toNatClampNeg < 62 := Nat.not_le.mp fun q => hin (Or.inr q)
  show qc_J F 0 0 0 [some (.ref (qc_RO + 20 + 2)), some (.int i)] [] h
  refine qj_iload_n cx dJ1_charAt_3b067_0 rfl rfl ?_
  refine qj_aload_n cx dJ1_charAt_3b067_1 rfl rfl ?_
  refine qj_tal cx dJ1_charAt_3b067_2 hRO ?_
  refine qj_callS (As := [.int i, .int 62]) (st := []) (h' := h) (r := none) cx dJ1_charAt_3b067_3 (qt_ci hRO (qc_in_ge hin) (qc_in_62 hin)) gt_9 gm_ci rfl (by decide) (by decide) rfl (Nat.le_of_ble_eq_true rfl) hRO hn0 rfl ?_
  refine qj_aload_n cx dJ1_charAt_3b067_6 rfl rfl ?_
  refine qj_iload_n cx dJ1_charAt_3b067_7 rfl rfl ?_
  refine qj_tba cx dJ1_charAt_3b067_8 hRO hin ?_
  refine qj_sipush (v := 255) cx dJ1_charAt_3b067_9 (by decide) ?_
  refine qj_iand cx dJ1_charAt_3b067_12 ?_
  refine qj_i2c cx dJ1_charAt_3b067_13 ?_
  refine qw_top (qc_ch_ok _ hk).1.symm ?_
  exact qj_zret (st := []) cx hz dJ1_charAt_3b067_14 (qc_ch_ok _ hk).2 (Nat.zero_le _) (Nat.zero_le _)
/-- charAt(i) -/
theorem qt_charAt {h : qc_Pl} (hRO : qc_n h ≤ qc_RO) {i : Int32} (hin : qc_in i 62) : ∀ l, qc_M l yJ0_charAt_5068e cJ0_charAt_5068e 2 (some .char) 3 64 0 0 [.ref (qc_RO + 10 + 2), .int i] h (some (.int (qc_ch i.toNatClampNeg))) h := by
  intro l
  refine qc_ent2 (by decide) (Nat.le_of_ble_eq_true rfl) ?_
  intro F hn0 cx hz
  have cx : qc_X F cJ0_charAt_5068e RJ0 "charAt" 3 0 0 64 := cx
  have hk : i.toNatClampNeg < 62 := Nat.not_le.mp fun q => hin (Or.inr q)
  show qc_J F 0 0 0 [some (.ref (qc_RO + 10 + 2)), some (.int i)] [] h
  refine qj_aload_n cx dJ0_charAt_5068e_0 rfl rfl ?_
  refine qj_callT (As := []) (st := []) (r := some (.int 1)) cx dJ0_charAt_5068e_1 (qt_latin hRO) gt_492 gm_latin rfl rfl (by decide) (by decide) rfl (Nat.le_of_ble_eq_true rfl) hRO hn0 ?_
  refine qj_if_eq (tgt := 16) cx dJ0_charAt_5068e_4 (by decide) (fun c => absurd c (by decide)) (fun c => ?_)
  refine qj_aload_n cx dJ0_charAt_5068e_7 rfl rfl ?_
  refine qj_tva cx dJ0_charAt_5068e_8 hRO ?_
  refine qj_iload_n cx dJ0_charAt_5068e_11 rfl rfl ?_
  refine qj_callS (As := [.ref (qc_RO + 20 + 2), .int i]) (st := []) (h' := h) (r := some (.int (qc_ch i.toNatClampNeg))) cx dJ0_charAt_5068e_12 (qt_l1 hRO hin) gt_495 gm_l1 rfl (by decide) (by decide) rfl (Nat.le_of_ble_eq_true rfl) hRO hn0 rfl ?_
  exact qj_zret (st := []) cx hz dJ0_charAt_5068e_15 (qc_ch_ok _ hk).2 (Nat.zero_le _) (Nat.zero_le _)
