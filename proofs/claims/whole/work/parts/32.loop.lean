/-! THE LAW'S LOOP -/
/-- both sides do alike, at each of the 47 calls -/
def St (Rel : (Nat → Nat → Int32) → (Nat → Nat → Int64) → (Nat → Nat) → (Nat → Nat → Int32) → Prop) : Prop := St_0 Rel ∧ St_1 Rel ∧ St_2 Rel ∧ St_3 Rel ∧ St_4 Rel ∧ St_5 Rel ∧ St_6 Rel ∧ St_7 Rel ∧ St_8 Rel ∧ St_9 Rel ∧ St_10 Rel ∧ St_11 Rel ∧ St_12 Rel ∧ St_13 Rel ∧ St_14 Rel ∧ St_15 Rel ∧ St_16 Rel ∧ St_17 Rel ∧ St_18 Rel ∧ St_19 Rel ∧ St_20 Rel ∧ St_21 Rel ∧ St_22 Rel ∧ St_23 Rel ∧ St_24 Rel ∧ St_25 Rel ∧ St_26 Rel ∧ St_27 Rel ∧ St_28 Rel ∧ St_29 Rel ∧ St_30 Rel ∧ St_31 Rel ∧ St_32 Rel ∧ St_33 Rel ∧ St_34 Rel ∧ St_35 Rel ∧ St_36 Rel ∧ St_37 Rel ∧ St_38 Rel ∧ St_39 Rel ∧ St_40 Rel ∧ St_41 Rel ∧ St_42 Rel ∧ St_43 Rel ∧ St_44 Rel ∧ St_45 Rel ∧ St_46 Rel
theorem lw_len {L i : Nat} (hL : L ≤ 3072) (hi : i ≤ 4000) (h : ¬ Int32.ofNat L - 6 < nI i) : i + 6 ≤ L := by
  by_cases h6 : 6 ≤ L
  · have e : Int32.ofNat L - 6 = nI (L - 6) := by
      have e1 : Int32.ofNat L = nI (L - 6) + 6 := by
        have e2 := nI_add (L - 6) 6
        rw [show L - 6 + 6 = L by omega] at e2
        exact e2.symm
      rw [e1, Int32.add_sub_cancel]
    rw [e, nI_ltI (by omega) (by omega)] at h
    omega
  · exfalso
    apply h
    rw [Int32.lt_iff_toInt_lt, nI_toInt (by omega)]
    have h5 : ∀ L, L < 6 → (Int32.ofNat L - 6).toInt < 0 := by decide +kernel
    have := h5 L (by omega)
    omega
theorem lw_nk {i k : Nat} {v : Int32} (hv : nI k = v) : nI i + v = nI (i + k) := by rw [← hv]; exact nI_add i k
theorem lw_Go.widen {p : Program} {l : Launch} {e : Env} {s : State} {m : MethodId} {below : List Frame} {meth : Method} {c : Code} {b : Nat} {D : va_G} {ca : Nat → ClassId} {ad0 : Nat → Nat} {qo : Nat} {cL : ClassId} {Rel : (Nat → Nat → Int32) → (Nat → Nat → Int64) → (Nat → Nat) → (Nat → Nat → Int32) → Prop} {x4 : Int32} {cells slots cells1 slots1 pc : Nat} (h : lw_Go p l e s m below meth c b D ca ad0 qo cL Rel x4 cells1 slots1 pc) (hc : cells ≤ cells1) (hs : slots ≤ slots1) : lw_Go p l e s m below meth c b D ca ad0 qo cL Rel x4 cells slots pc := fun I J w M adX adM o H locs la h1 h2 h3 h4 => W.widen hc hs (h I J w M adX adM o H locs la h1 h2 h3 h4)
theorem lw_sw {p : Program} {l : Launch} {e : Env} {s : State} {m : MethodId} {below : List Frame} {meth : Method} {c : Code} {b L : Nat} {xs : Nat → Int32} {D : va_G} {ca : Nat → ClassId} {ad0 : Nat → Nat} {qo : Nat} {cL : ClassId} {Rel : (Nat → Nat → Int32) → (Nat → Nat → Int64) → (Nat → Nat) → (Nat → Nat → Int32) → Prop} {x4 : Int32} {cells slots : Nat} (C0 : lw_C p s m meth c b L xs D ca ad0) (hKl : va_K D vwCl [(cL, .long)] s) (hl9 : l.stackTraces = false) (hRw : ∀ I J w M, Rel I J w M → ∀ j, 12 ≤ w j ∧ w j < 121) (hi0 : vp_in x4 L) (hi1 : vp_in (x4 + 1) L) (hi2 : vp_in (x4 + 2) L) (hi3 : vp_in (x4 + 3) L) (hi4 : vp_in (x4 + 4) L) (hi5 : vp_in (x4 + 5) L) (hce : cells + 11 ≤ 601024 ∧ slots + 98 ≤ 7293034) (st : St Rel) (go : lw_Go p l e s m below meth c b D ca ad0 qo cL Rel x4 (cells + 11) (slots + 98) 1522) : lw_Go p l e s m below meth c b D ca ad0 qo cL Rel x4 cells slots 33 := by
  obtain ⟨s0, s1, s2, s3, s4, s5, s6, s7, s8, s9, s10, s11, s12, s13, s14, s15, s16, s17, s18, s19, s20, s21, s22, s23, s24, s25, s26, s27, s28, s29, s30, s31, s32, s33, s34, s35, s36, s37, s38, s39, s40, s41, s42, s43, s44, s45, s46⟩ := st
  obtain ⟨hx, hb, hr, hml, hown, hts, hX, hbl, hlocks, hgv⟩ := C0.1
  have hbA : ¬ (fun q : Nat => s.heap.size ≤ q) b := Nat.not_le.mpr hbl
  have g0 : lw_Go p l e s m below meth c b D ca ad0 qo cL Rel x4 cells slots 1522 := go.widen (Nat.le_add_right _ _) (Nat.le_add_right _ _)
  have g10 : lw_Go p l e s m below meth c b D ca ad0 qo cL Rel x4 (cells + 1) (slots + 6) 1522 := go.widen (by omega) (by omega)
  have hc0 : cells ≤ 601024 ∧ slots ≤ 7293034 := ⟨by omega, by omega⟩
  have hc10 : cells + 1 ≤ 601024 ∧ slots + 6 ≤ 7293034 := ⟨by omega, by omega⟩
  intro I J w M adX adM o H locs la hR hw hS hl
  refine lv_aload_n hx hb dL_law_33 rfl (lv_at hl 0 rfl) ?_
  refine lv_iload hx hb dL_law_34 (lv_at hl 4 rfl) ?_
  refine va_sld hx hb hX hbl hbA hS hi0 dL_law_36 ?_
  refine lv_bipush (v := 63) hx hb dL_law_37 (by decide) ?_
  refine lv_iand hx hb dL_law_39 ?_
  generalize xs x4.toNatClampNeg &&& 63 = k
  by_cases c0 : k = 0
  · exact lv_tableIn (off := 204) (tgt := 244) hx hb dL_law_40 (by rw [c0]; decide) (by rw [c0]; decide) (by rw [c0]; rfl) (by decide) (lw_k0 C0 hi1 hi2 hi3 hi4 hi5 hc0 s0 g0 I J w M adX adM o H locs la hR hw hS hl)
  by_cases c1 : k = 1
  · exact lv_tableIn (off := 277) (tgt := 317) hx hb dL_law_40 (by rw [c1]; decide) (by rw [c1]; decide) (by rw [c1]; rfl) (by decide) (lw_k1 C0 hRw hi1 hce s1 go I J w M adX adM o H locs la hR hw hS hl)
  by_cases c2 : k = 2
  · exact lv_tableIn (off := 302) (tgt := 342) hx hb dL_law_40 (by rw [c2]; decide) (by rw [c2]; decide) (by rw [c2]; rfl) (by decide) (lw_k2 C0 hi1 hi2 hi3 hi4 hi5 hc0 s2 g0 I J w M adX adM o H locs la hR hw hS hl)
  by_cases c3 : k = 3
  · exact lv_tableIn (off := 327) (tgt := 367) hx hb dL_law_40 (by rw [c3]; decide) (by rw [c3]; decide) (by rw [c3]; rfl) (by decide) (lw_k3 C0 hi1 hi2 hi3 hi4 hi5 hc0 s3 g0 I J w M adX adM o H locs la hR hw hS hl)
  by_cases c4 : k = 4
  · exact lv_tableIn (off := 352) (tgt := 392) hx hb dL_law_40 (by rw [c4]; decide) (by rw [c4]; decide) (by rw [c4]; rfl) (by decide) (lw_k4 C0 hi1 hi2 hi3 hi4 hi5 hc0 s4 g0 I J w M adX adM o H locs la hR hw hS hl)
  by_cases c5 : k = 5
  · exact lv_tableIn (off := 389) (tgt := 429) hx hb dL_law_40 (by rw [c5]; decide) (by rw [c5]; decide) (by rw [c5]; rfl) (by decide) (lw_k5 C0 hi1 hi2 hi3 hi4 hi5 hc0 s5 g0 I J w M adX adM o H locs la hR hw hS hl)
  by_cases c6 : k = 6
  · exact lv_tableIn (off := 414) (tgt := 454) hx hb dL_law_40 (by rw [c6]; decide) (by rw [c6]; decide) (by rw [c6]; rfl) (by decide) (lw_k6 C0 hi1 hi2 hi3 hi4 hi5 hc0 s6 g0 I J w M adX adM o H locs la hR hw hS hl)
  by_cases c7 : k = 7
  · exact lv_tableIn (off := 451) (tgt := 491) hx hb dL_law_40 (by rw [c7]; decide) (by rw [c7]; decide) (by rw [c7]; rfl) (by decide) (lw_k7 C0 hi1 hi2 hi3 hi4 hi5 hc0 s7 g0 I J w M adX adM o H locs la hR hw hS hl)
  by_cases c8 : k = 8
  · exact lv_tableIn (off := 488) (tgt := 528) hx hb dL_law_40 (by rw [c8]; decide) (by rw [c8]; decide) (by rw [c8]; rfl) (by decide) (lw_k8 C0 hi1 hi2 hi3 hi4 hi5 hc0 s8 g0 I J w M adX adM o H locs la hR hw hS hl)
  by_cases c9 : k = 9
  · exact lv_tableIn (off := 501) (tgt := 541) hx hb dL_law_40 (by rw [c9]; decide) (by rw [c9]; decide) (by rw [c9]; rfl) (by decide) (lw_k9 C0 hi1 hi2 hi3 hi4 hi5 hc0 s9 g0 I J w M adX adM o H locs la hR hw hS hl)
  by_cases c10 : k = 10
  · exact lv_tableIn (off := 514) (tgt := 554) hx hb dL_law_40 (by rw [c10]; decide) (by rw [c10]; decide) (by rw [c10]; rfl) (by decide) (lw_k10 C0 hKl hl9 hi1 hi2 hc10 s10 g10 I J w M adX adM o H locs la hR hw hS hl)
  by_cases c11 : k = 11
  · exact lv_tableIn (off := 582) (tgt := 622) hx hb dL_law_40 (by rw [c11]; decide) (by rw [c11]; decide) (by rw [c11]; rfl) (by decide) (lw_k11 C0 hi1 hi2 hi3 hi4 hi5 hc0 s11 g0 I J w M adX adM o H locs la hR hw hS hl)
  by_cases c12 : k = 12
  · exact lv_tableIn (off := 607) (tgt := 647) hx hb dL_law_40 (by rw [c12]; decide) (by rw [c12]; decide) (by rw [c12]; rfl) (by decide) (lw_k12 C0 hi1 hi2 hi3 hi4 hi5 hc0 s12 g0 I J w M adX adM o H locs la hR hw hS hl)
  by_cases c13 : k = 13
  · exact lv_tableIn (off := 632) (tgt := 672) hx hb dL_law_40 (by rw [c13]; decide) (by rw [c13]; decide) (by rw [c13]; rfl) (by decide) (lw_k13 C0 hi1 hi2 hi3 hi4 hi5 hc0 s13 g0 I J w M adX adM o H locs la hR hw hS hl)
  by_cases c14 : k = 14
  · exact lv_tableIn (off := 669) (tgt := 709) hx hb dL_law_40 (by rw [c14]; decide) (by rw [c14]; decide) (by rw [c14]; rfl) (by decide) (lw_k14 C0 hi1 hi2 hi3 hi4 hi5 hc0 s14 g0 I J w M adX adM o H locs la hR hw hS hl)
  by_cases c15 : k = 15
  · exact lv_tableIn (off := 694) (tgt := 734) hx hb dL_law_40 (by rw [c15]; decide) (by rw [c15]; decide) (by rw [c15]; rfl) (by decide) (lw_k15 C0 hi1 hi2 hi3 hi4 hi5 hc0 s15 g0 I J w M adX adM o H locs la hR hw hS hl)
  by_cases c16 : k = 16
  · exact lv_tableIn (off := 731) (tgt := 771) hx hb dL_law_40 (by rw [c16]; decide) (by rw [c16]; decide) (by rw [c16]; rfl) (by decide) (lw_k16 C0 hi1 hi2 hi3 hi4 hi5 hc0 s16 g0 I J w M adX adM o H locs la hR hw hS hl)
  by_cases c17 : k = 17
  · exact lv_tableIn (off := 756) (tgt := 796) hx hb dL_law_40 (by rw [c17]; decide) (by rw [c17]; decide) (by rw [c17]; rfl) (by decide) (lw_k17 C0 hi1 hi2 hi3 hi4 hi5 hc0 s17 g0 I J w M adX adM o H locs la hR hw hS hl)
  by_cases c18 : k = 18
  · exact lv_tableIn (off := 769) (tgt := 809) hx hb dL_law_40 (by rw [c18]; decide) (by rw [c18]; decide) (by rw [c18]; rfl) (by decide) (lw_k18 C0 hi1 hi2 hi3 hi4 hi5 hc0 s18 g0 I J w M adX adM o H locs la hR hw hS hl)
  by_cases c19 : k = 19
  · exact lv_tableIn (off := 806) (tgt := 846) hx hb dL_law_40 (by rw [c19]; decide) (by rw [c19]; decide) (by rw [c19]; rfl) (by decide) (lw_k19 C0 hi1 hi2 hi3 hi4 hi5 hc0 s19 g0 I J w M adX adM o H locs la hR hw hS hl)
  by_cases c20 : k = 20
  · exact lv_tableIn (off := 831) (tgt := 871) hx hb dL_law_40 (by rw [c20]; decide) (by rw [c20]; decide) (by rw [c20]; rfl) (by decide) (lw_k20 C0 hi1 hi2 hi3 hi4 hi5 hc0 s20 g0 I J w M adX adM o H locs la hR hw hS hl)
  by_cases c21 : k = 21
  · exact lv_tableIn (off := 868) (tgt := 908) hx hb dL_law_40 (by rw [c21]; decide) (by rw [c21]; decide) (by rw [c21]; rfl) (by decide) (lw_k21 C0 hi1 hi2 hi3 hi4 hi5 hc0 s21 g0 I J w M adX adM o H locs la hR hw hS hl)
  by_cases c22 : k = 22
  · exact lv_tableIn (off := 893) (tgt := 933) hx hb dL_law_40 (by rw [c22]; decide) (by rw [c22]; decide) (by rw [c22]; rfl) (by decide) (lw_k22 C0 hi1 hi2 hi3 hi4 hi5 hc0 s22 g0 I J w M adX adM o H locs la hR hw hS hl)
  by_cases c23 : k = 23
  · exact lv_tableIn (off := 918) (tgt := 958) hx hb dL_law_40 (by rw [c23]; decide) (by rw [c23]; decide) (by rw [c23]; rfl) (by decide) (lw_k23 C0 hi1 hi2 hi3 hi4 hi5 hc0 s23 g0 I J w M adX adM o H locs la hR hw hS hl)
  by_cases c24 : k = 24
  · exact lv_tableIn (off := 931) (tgt := 971) hx hb dL_law_40 (by rw [c24]; decide) (by rw [c24]; decide) (by rw [c24]; rfl) (by decide) (lw_k24 C0 hi1 hi2 hi3 hi4 hi5 hc0 s24 g0 I J w M adX adM o H locs la hR hw hS hl)
  by_cases c25 : k = 25
  · exact lv_tableIn (off := 944) (tgt := 984) hx hb dL_law_40 (by rw [c25]; decide) (by rw [c25]; decide) (by rw [c25]; rfl) (by decide) (lw_k25 C0 hi1 hi2 hi3 hi4 hi5 hc0 s25 g0 I J w M adX adM o H locs la hR hw hS hl)
  by_cases c26 : k = 26
  · exact lv_tableIn (off := 1005) (tgt := 1045) hx hb dL_law_40 (by rw [c26]; decide) (by rw [c26]; decide) (by rw [c26]; rfl) (by decide) (lw_k26 C0 hi1 hi2 hi3 hi4 hi5 hc0 s26 g0 I J w M adX adM o H locs la hR hw hS hl)
  by_cases c27 : k = 27
  · exact lv_tableIn (off := 1018) (tgt := 1058) hx hb dL_law_40 (by rw [c27]; decide) (by rw [c27]; decide) (by rw [c27]; rfl) (by decide) (lw_k27 C0 hi1 hi2 hi3 hi4 hi5 hc0 s27 g0 I J w M adX adM o H locs la hR hw hS hl)
  by_cases c28 : k = 28
  · exact lv_tableIn (off := 1055) (tgt := 1095) hx hb dL_law_40 (by rw [c28]; decide) (by rw [c28]; decide) (by rw [c28]; rfl) (by decide) (lw_k28 C0 hi1 hi2 hi3 hi4 hi5 hc0 s28 g0 I J w M adX adM o H locs la hR hw hS hl)
  by_cases c29 : k = 29
  · exact lv_tableIn (off := 1092) (tgt := 1132) hx hb dL_law_40 (by rw [c29]; decide) (by rw [c29]; decide) (by rw [c29]; rfl) (by decide) (lw_k29 C0 hi1 hi2 hi3 hi4 hi5 hc0 s29 g0 I J w M adX adM o H locs la hR hw hS hl)
  by_cases c30 : k = 30
  · exact lv_tableIn (off := 1105) (tgt := 1145) hx hb dL_law_40 (by rw [c30]; decide) (by rw [c30]; decide) (by rw [c30]; rfl) (by decide) (lw_k30 C0 hi1 hi2 hi3 hi4 hi5 hc0 s30 g0 I J w M adX adM o H locs la hR hw hS hl)
  by_cases c31 : k = 31
  · exact lv_tableIn (off := 1130) (tgt := 1170) hx hb dL_law_40 (by rw [c31]; decide) (by rw [c31]; decide) (by rw [c31]; rfl) (by decide) (lw_k31 C0 hi1 hi2 hi3 hi4 hi5 hc0 s31 g0 I J w M adX adM o H locs la hR hw hS hl)
  by_cases c32 : k = 32
  · exact lv_tableIn (off := 1143) (tgt := 1183) hx hb dL_law_40 (by rw [c32]; decide) (by rw [c32]; decide) (by rw [c32]; rfl) (by decide) (lw_k32 C0 hi1 hi2 hi3 hi4 hi5 hc0 s32 g0 I J w M adX adM o H locs la hR hw hS hl)
  by_cases c33 : k = 33
  · exact lv_tableIn (off := 1156) (tgt := 1196) hx hb dL_law_40 (by rw [c33]; decide) (by rw [c33]; decide) (by rw [c33]; rfl) (by decide) (lw_k33 C0 hi1 hi2 hi3 hi4 hi5 hc0 s33 g0 I J w M adX adM o H locs la hR hw hS hl)
  by_cases c34 : k = 34
  · exact lv_tableIn (off := 1181) (tgt := 1221) hx hb dL_law_40 (by rw [c34]; decide) (by rw [c34]; decide) (by rw [c34]; rfl) (by decide) (lw_k34 C0 hi1 hi2 hi3 hi4 hi5 hc0 s34 g0 I J w M adX adM o H locs la hR hw hS hl)
  by_cases c35 : k = 35
  · exact lv_tableIn (off := 1206) (tgt := 1246) hx hb dL_law_40 (by rw [c35]; decide) (by rw [c35]; decide) (by rw [c35]; rfl) (by decide) (lw_k35 C0 hi1 hi2 hi3 hi4 hi5 hc0 s35 g0 I J w M adX adM o H locs la hR hw hS hl)
  by_cases c36 : k = 36
  · exact lv_tableIn (off := 1231) (tgt := 1271) hx hb dL_law_40 (by rw [c36]; decide) (by rw [c36]; decide) (by rw [c36]; rfl) (by decide) (lw_k36 C0 hi1 hi2 hi3 hi4 hi5 hc0 s36 g0 I J w M adX adM o H locs la hR hw hS hl)
  by_cases c37 : k = 37
  · exact lv_tableIn (off := 1244) (tgt := 1284) hx hb dL_law_40 (by rw [c37]; decide) (by rw [c37]; decide) (by rw [c37]; rfl) (by decide) (lw_k37 C0 hi1 hi2 hi3 hi4 hi5 hc0 s37 g0 I J w M adX adM o H locs la hR hw hS hl)
  by_cases c38 : k = 38
  · exact lv_tableIn (off := 1269) (tgt := 1309) hx hb dL_law_40 (by rw [c38]; decide) (by rw [c38]; decide) (by rw [c38]; rfl) (by decide) (lw_k38 C0 hi1 hi2 hi3 hi4 hi5 hc0 s38 g0 I J w M adX adM o H locs la hR hw hS hl)
  by_cases c39 : k = 39
  · exact lv_tableIn (off := 1294) (tgt := 1334) hx hb dL_law_40 (by rw [c39]; decide) (by rw [c39]; decide) (by rw [c39]; rfl) (by decide) (lw_k39 C0 hi1 hi2 hi3 hi4 hi5 hc0 s39 g0 I J w M adX adM o H locs la hR hw hS hl)
  by_cases c40 : k = 40
  · exact lv_tableIn (off := 1331) (tgt := 1371) hx hb dL_law_40 (by rw [c40]; decide) (by rw [c40]; decide) (by rw [c40]; rfl) (by decide) (lw_k40 C0 hi1 hi2 hi3 hi4 hi5 hc0 s40 g0 I J w M adX adM o H locs la hR hw hS hl)
  by_cases c41 : k = 41
  · exact lv_tableIn (off := 1356) (tgt := 1396) hx hb dL_law_40 (by rw [c41]; decide) (by rw [c41]; decide) (by rw [c41]; rfl) (by decide) (lw_k41 C0 hi1 hi2 hi3 hi4 hi5 hc0 s41 g0 I J w M adX adM o H locs la hR hw hS hl)
  by_cases c42 : k = 42
  · exact lv_tableIn (off := 1369) (tgt := 1409) hx hb dL_law_40 (by rw [c42]; decide) (by rw [c42]; decide) (by rw [c42]; rfl) (by decide) (lw_k42 C0 hi1 hi2 hi3 hi4 hi5 hc0 s42 g0 I J w M adX adM o H locs la hR hw hS hl)
  by_cases c43 : k = 43
  · exact lv_tableIn (off := 1418) (tgt := 1458) hx hb dL_law_40 (by rw [c43]; decide) (by rw [c43]; decide) (by rw [c43]; rfl) (by decide) (lw_k43 C0 hi1 hi2 hi3 hi4 hi5 hc0 s43 g0 I J w M adX adM o H locs la hR hw hS hl)
  by_cases c44 : k = 44
  · exact lv_tableIn (off := 1431) (tgt := 1471) hx hb dL_law_40 (by rw [c44]; decide) (by rw [c44]; decide) (by rw [c44]; rfl) (by decide) (lw_k44 C0 hi1 hi2 hi3 hi4 hi5 hc0 s44 g0 I J w M adX adM o H locs la hR hw hS hl)
  by_cases c45 : k = 45
  · exact lv_tableIn (off := 1444) (tgt := 1484) hx hb dL_law_40 (by rw [c45]; decide) (by rw [c45]; decide) (by rw [c45]; rfl) (by decide) (lw_k45 C0 hi1 hi2 hi3 hi4 hi5 hc0 s45 g0 I J w M adX adM o H locs la hR hw hS hl)
  by_cases c46 : k = 46
  · exact lv_tableIn (off := 1457) (tgt := 1497) hx hb dL_law_40 (by rw [c46]; decide) (by rw [c46]; decide) (by rw [c46]; rfl) (by decide) (lw_k46 C0 hi1 hi2 hi3 hi4 hi5 hc0 s46 g0 I J w M adX adM o H locs la hR hw hS hl)
  exact lv_tableOut (tgt := 1522) hx hb dL_law_40 (by have := lv_neT (a := 0) c0 (by decide); have := lv_neT (a := 1) c1 (by decide); have := lv_neT (a := 2) c2 (by decide); have := lv_neT (a := 3) c3 (by decide); have := lv_neT (a := 4) c4 (by decide); have := lv_neT (a := 5) c5 (by decide); have := lv_neT (a := 6) c6 (by decide); have := lv_neT (a := 7) c7 (by decide); have := lv_neT (a := 8) c8 (by decide); have := lv_neT (a := 9) c9 (by decide); have := lv_neT (a := 10) c10 (by decide); have := lv_neT (a := 11) c11 (by decide); have := lv_neT (a := 12) c12 (by decide); have := lv_neT (a := 13) c13 (by decide); have := lv_neT (a := 14) c14 (by decide); have := lv_neT (a := 15) c15 (by decide); have := lv_neT (a := 16) c16 (by decide); have := lv_neT (a := 17) c17 (by decide); have := lv_neT (a := 18) c18 (by decide); have := lv_neT (a := 19) c19 (by decide); have := lv_neT (a := 20) c20 (by decide); have := lv_neT (a := 21) c21 (by decide); have := lv_neT (a := 22) c22 (by decide); have := lv_neT (a := 23) c23 (by decide); have := lv_neT (a := 24) c24 (by decide); have := lv_neT (a := 25) c25 (by decide); have := lv_neT (a := 26) c26 (by decide); have := lv_neT (a := 27) c27 (by decide); have := lv_neT (a := 28) c28 (by decide); have := lv_neT (a := 29) c29 (by decide); have := lv_neT (a := 30) c30 (by decide); have := lv_neT (a := 31) c31 (by decide); have := lv_neT (a := 32) c32 (by decide); have := lv_neT (a := 33) c33 (by decide); have := lv_neT (a := 34) c34 (by decide); have := lv_neT (a := 35) c35 (by decide); have := lv_neT (a := 36) c36 (by decide); have := lv_neT (a := 37) c37 (by decide); have := lv_neT (a := 38) c38 (by decide); have := lv_neT (a := 39) c39 (by decide); have := lv_neT (a := 40) c40 (by decide); have := lv_neT (a := 41) c41 (by decide); have := lv_neT (a := 42) c42 (by decide); have := lv_neT (a := 43) c43 (by decide); have := lv_neT (a := 44) c44 (by decide); have := lv_neT (a := 45) c45 (by decide); have := lv_neT (a := 46) c46 (by decide); omega) (by decide) (g0 I J w M adX adM o H locs la hR hw hS hl)
theorem lw_loop {p : Program} {l : Launch} {e : Env} {s : State} {m : MethodId} {below : List Frame} {meth : Method} {c : Code} {b L : Nat} {xs : Nat → Int32} {D : va_G} {ca : Nat → ClassId} {ad0 : Nat → Nat} {qo : Nat} {cL : ClassId} {Rel : (Nat → Nat → Int32) → (Nat → Nat → Int64) → (Nat → Nat) → (Nat → Nat → Int32) → Prop} (C0 : lw_C p s m meth c b L xs D ca ad0) (hL : L ≤ 3072) (hKl : va_K D vwCl [(cL, .long)] s) (hl9 : l.stackTraces = false) (hRw : ∀ I J w M, Rel I J w M → ∀ j, 12 ≤ w j ∧ w j < 121) (st : St Rel) : ∀ n j : Nat, L + 6 < 6 * j + 6 * n → 6 * j ≤ L → lw_Go p l e s m below meth c b D ca ad0 qo cL Rel (nI (6 * j)) (200 + 11 * j) (15000 + 98 * j) 23 := by
  obtain ⟨hx, hb, hr, hml, hown, hts, hX, hbl, hlocks, hgv⟩ := id C0.1
  have hbA : ¬ (fun q : Nat => s.heap.size ≤ q) b := Nat.not_le.mpr hbl
  intro n
  induction n with
  | zero => intro j h1 h2; exact absurd h1 (by omega)
  | succ n ih =>
    intro j h1 h2 I J w M adX adM o H locs la hR hw hS hl
    refine lv_iload hx hb dL_law_23 (lv_at hl 4 rfl) ?_
    refine lv_aload_n hx hb dL_law_25 rfl (lv_at hl 0 rfl) ?_
    refine va_slen hx hb hX hbl hbA hS dL_law_26 ?_
    refine lv_bipush (v := 6) hx hb dL_law_27 (by decide) ?_
    refine lv_isub hx hb dL_law_29 ?_
    refine lv_icmp_gt (tgt := 1528) hx hb dL_law_30 (by decide) (fun _ => ?_) (fun c9 => ?_)
    · refine lv_iconst (v := 1) hx hb dL_law_1528 (by decide) ?_
      refine va_forget (fun q hq => hS.2.2 q hq) ?_
      refine W.widen (k := 601024) (n := 7293034) (by omega) (by omega) ?_
      exact lw_ret hx hb hr hlocks dL_law_1529
    · have h6 : 6 * j + 6 ≤ L := lw_len hL (by omega) c9
      have hin : ∀ (k : Nat) (v : Int32), nI k = v → k < 6 → vp_in (nI (6 * j) + v) L := fun k v hv hk => by
        rw [lw_nk hv]
        exact vp_in_nI (by omega) (by omega)
      refine lw_sw C0 hKl hl9 hRw (vp_in_nI (by omega) (by omega)) (hin 1 1 rfl (by decide)) (hin 2 2 rfl (by decide)) (hin 3 3 rfl (by decide)) (hin 4 4 rfl (by decide)) (hin 5 5 rfl (by decide)) ⟨by omega, by omega⟩ st ?_ I J w M adX adM o H locs la hR hw hS hl
      intro I J w M adX adM o H locs la hR hw hS hl
      refine lv_iinc (v := nI (6 * (j + 1))) (lv' := [(4, .int (nI (6 * (j + 1)))), (0, .ref b), (1, .ref (adX 0)), (2, .ref (adM 0)), (3, .ref qo)]) hx hb dL_law_1522 hl (k := 4) rfl (lw_nk (k := 6) rfl) (by decide) rfl (fun la hl => ?_)
      refine lv_goto (tgt := 23) hx hb dL_law_1525 (by decide) ?_
      have e1 : 200 + 11 * j + 11 = 200 + 11 * (j + 1) := by omega
      have e2 : 15000 + 98 * j + 98 = 15000 + 98 * (j + 1) := by omega
      rw [e1, e2]
      exact ih (j + 1) (by omega) (by omega) I J w M adX adM o H locs la hR hw hS (lv_sub hl [1, 2, 3, 4, 0] rfl)
