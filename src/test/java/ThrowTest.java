import java.lang.reflect.InvocationTargetException;
import java.lang.reflect.Method;
import java.lang.reflect.Modifier;
import java.util.ArrayList;
import java.util.List;
import java.util.NoSuchElementException;
import java.util.Random;

/** No call throws, whatever it is asked and whatever was told, but user() what the document says, and just there. */
public final class ThrowTest {
    private static final int[] NUMBERS = {Integer.MIN_VALUE, Integer.MIN_VALUE + 1, -1000, -256, -65, -20, -4, -3, -2, -1, 0, 1, 2,
        3, 4, 5, 6, 7, 8, 9, 19, 20, 21, 29, 30, 31, 32, 33, 59, 60, 61, 62, 63, 64, 65, 99, 100, 255, 256, 699, 700, 701, 99999,
        100000, 1 << 25, 1 << 30, Integer.MAX_VALUE - 1, Integer.MAX_VALUE};
    private static final int CALLS_MOST = 500;
    private static final String[] TEXTS = {
        "",
        "user a 0 0 1 1;",
        "band 4;guard 5;space 20;orders 7;loss 0 0 0;user a 0 30 1 4;user b 0 30 1 4;user c 1 30 1 4;link 0 1 0;",
        "band 60;orders 7;guard 1;loss 0 0 0;user a 0 30 1 60;user b 0 30 1 60;user c 0 30 1 60;user d 0 30 1 60;"
            + "user e 0 30 1 60;user f 0 30 1 60;fixed a 30;fixed b 31;fixed c 32;fixed d 33;fixed e 34;fixed f 60;",
        "band 60;space 20;user a 0 9 1 60;user b 1 9 1 60;user c 2 9 1 60;user d 0 9 1 60;user e 1 9 1 60;user f 2 9 1 60;"
            + "link 0 1 5;link 1 2 5;link 0 2 5;block 1 60;"};

    private final Random random = new Random(7);
    private int wrong = 0;
    /** Calls that the object at hand has answered, and all objects together. */
    private int made = 0;
    private int all = 0;

    private QuietChannels told(String text) {
        QuietChannels x = new QuietChannels();
        Due.tell(x, text);
        x.keep();
        made = 0;
        return x;
    }

    private void call(QuietChannels x, Method m, Object... numbers) throws IllegalAccessException {
        made += 2;
        all++;
        Object due = null;
        if (m.getName().equals("user")) {
            boolean known = (int) numbers[0] >= 0 && (int) numbers[0] < x.count(0);
            boolean asked = (int) numbers[1] >= 0 && (int) numbers[1] <= 6;
            due = !known ? IndexOutOfBoundsException.class : !asked ? NoSuchElementException.class : null;
        }
        Object thrown = null;
        try {
            m.invoke(x, numbers);
        } catch (InvocationTargetException e) {
            thrown = e.getCause().getClass();
        }
        if (thrown != due) {
            wrong++;
            System.out.println("ThrowTest: " + m.getName() + List.of(numbers) + " threw " + thrown + ", due is " + due);
        }
    }

    /** All that one or two numbers can be; of more numbers some. */
    private List<Object[]> numbersFor(Method m) {
        List<Object[]> all = new ArrayList<>();
        int places = m.getParameterCount();
        if (places <= 2) {
            for (int i = 0; i < Math.pow(NUMBERS.length, places); i++) {
                Object[] one = new Object[places];
                for (int k = 0, rest = i; k < places; k++, rest /= NUMBERS.length) {
                    one[k] = NUMBERS[rest % NUMBERS.length];
                }
                all.add(one);
            }
        } else {
            for (int i = 0; i < 300; i++) {
                Object[] one = new Object[places];
                for (int k = 0; k < places; k++) {
                    one[k] = NUMBERS[random.nextInt(NUMBERS.length)];
                }
                all.add(one);
            }
        }
        return all;
    }

    public static void main(String[] args) throws IllegalAccessException {
        ThrowTest test = new ThrowTest();
        for (String text : TEXTS) {
            for (Method m : QuietChannels.class.getDeclaredMethods()) {
                if (!Modifier.isPublic(m.getModifiers())) {
                    continue;
                }
                QuietChannels x = test.told(text);
                for (Object[] numbers : test.numbersFor(m)) {
                    if (test.made >= CALLS_MOST || x.count(0) == 0) {
                        x = test.told(text);
                    }
                    test.call(x, m, numbers);
                }
            }
        }
        System.out.println("ThrowTest: " + test.all + " calls, " + test.wrong + " wrong");
        if (test.wrong > 0) {
            System.exit(1);
        }
    }
}
