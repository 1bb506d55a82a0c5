import java.lang.reflect.Constructor;
import java.lang.reflect.Field;
import java.lang.reflect.Method;
import java.lang.reflect.Modifier;
import java.util.Arrays;
import java.util.List;
import java.util.NoSuchElementException;
import java.util.Set;
import java.util.TreeSet;

/** The public face is the document's and no more, and rules 1, 5 and 11 of LANGUAGE.md as far as reflection sees. */
public final class FaceTest {
    private static final List<String> FACE = List.of("feed 5", "text 1", "fault 1", "named 1", "tune 2", "block 1",
            "power 2", "slots 2", "complete 0", "mend 0", "user 2", "blocked 1", "products 1", "product 2", "hits 1",
            "hitBy 2", "crowds 1", "clean 0", "fits 2", "free 1", "freeAt 2", "quietest 1", "planned 1", "mended 0",
            "leastBand 0", "grown 4", "worst 0", "ifTuned 2", "bySort 2", "loudest 0", "turned 1", "left 0",
            "bestSwap 0", "when 1", "clearance 1", "nearest 1", "mostSpace 0", "spare 1", "rank 1", "linked 2",
            "mostPower 1", "mostGuard 0", "chance 3", "undo 0", "keep 0", "back 0", "count 1");

    /** What user() may throw; no other call throws. */
    private static final Set<Class<?>> THROWN = Set.of(IndexOutOfBoundsException.class, NoSuchElementException.class);

    private static int wrong = 0;

    private static void rule(boolean kept, String what) {
        if (!kept) {
            wrong++;
            System.out.println("FaceTest: " + what);
        }
    }

    public static void main(String[] args) throws ReflectiveOperationException {
        Class<?> face = QuietChannels.class;
        rule(Modifier.isPublic(face.getModifiers()) && Modifier.isFinal(face.getModifiers()), "not public and final");
        rule(face.getInterfaces().length == 0 && face.getSuperclass() == Object.class, "extends or implements");
        methods(face);
        Constructor<?>[] constructors = face.getDeclaredConstructors();
        rule(constructors.length == 1 && Modifier.isPublic(constructors[0].getModifiers())
                && constructors[0].getParameterCount() == 0, "not the one constructor");
        rule(face.getField("NONE").getInt(null) == -1 && face.getField("NONE").getModifiers()
                == (Modifier.PUBLIC | Modifier.STATIC | Modifier.FINAL), "NONE is not the constant -1");
        fields(face, true);
        for (Class<?> inside : face.getDeclaredClasses()) {
            rule(Modifier.isStatic(inside.getModifiers()), inside + " is not static");
            fields(inside, false);
            for (Method m : inside.getDeclaredMethods()) {
                rule(m.getParameterCount() <= 7, m + " has too many parameters");
            }
        }
        rule(face.getDeclaredClasses().length < 12, "too many classes");
        System.out.println("FaceTest: " + wrong + " wrong");
        if (wrong > 0) {
            System.exit(1);
        }
    }

    private static void methods(Class<?> face) {
        Set<String> open = new TreeSet<>();
        Set<String> names = new TreeSet<>();
        for (Method m : face.getDeclaredMethods()) {
            if (!Modifier.isPrivate(m.getModifiers())) {
                open.add(m.getName() + " " + m.getParameterCount());
                names.add(m.getName());
                rule(Modifier.isPublic(m.getModifiers()) && !Modifier.isStatic(m.getModifiers()), m + " is not public");
                rule(m.getReturnType() == int.class, m + " does not answer an int");
                rule(Set.of(m.getExceptionTypes()).equals(m.getName().equals("user") ? THROWN : Set.of()),
                        m + " does not declare what it throws, as the document does");
                rule(Arrays.stream(m.getParameterTypes()).allMatch(t -> t == int.class), m + " takes more than ints");
            }
        }
        rule(open.equals(new TreeSet<>(FACE)), "the face is " + open);
        for (Method m : face.getDeclaredMethods()) {
            rule(!Modifier.isPrivate(m.getModifiers()) || !names.contains(m.getName()), m + " bears a public name");
        }
    }

    private static void fields(Class<?> owner, boolean isFace) {
        int own = 0;
        for (Field f : owner.getDeclaredFields()) {
            boolean constant = Modifier.isStatic(f.getModifiers());
            own += constant ? 0 : 1;
            rule(!constant || Modifier.isFinal(f.getModifiers()), f + " is static and not final");
            rule(!isFace || f.getName().equals("NONE") || Modifier.isPrivate(f.getModifiers()), f + " is not private");
        }
        rule(own <= 20, owner + " has too many fields");
    }
}
