import java.util.function.IntBinaryOperator;
import java.util.function.IntUnaryOperator;

/** Counts and prints the answers that are not the ones that are due. */
final class Check {
    private static int wrong = 0;
    private static int asked = 0;
    private static String promise = "";

    private Check() {
    }

    static void promise(int number, String what) {
        promise = "promise " + number + " (" + what + ")";
    }

    static void about(String what) {
        promise = what;
    }

    static void due(String call, long want, long got) {
        asked++;
        if (got != want) {
            wrong++;
            System.out.println(promise + ": " + call + " answered " + got + ", due is " + want);
        }
    }

    static void yes(String what, boolean holds) {
        asked++;
        if (!holds) {
            wrong++;
            System.out.println(promise + ": does not hold: " + what);
        }
    }

    static void end() {
        System.out.println(asked + " answers, " + wrong + " wrong");
        if (wrong != 0) {
            System.exit(1);
        }
    }

    /** Numbers outside 0 .. below - 1; some of them would come back into it, were they cut or wrapped around. */
    static int[] beyond(int below) {
        return new int[] {Integer.MIN_VALUE, Integer.MIN_VALUE + 1, -65536, -256, -32, -2, -1, below, below + 1,
            below + 31, below + 32, below + 255, below + 256, 65536, Integer.MAX_VALUE - 1, Integer.MAX_VALUE};
    }

    /** A call of one number answers so for all numbers outside 0 .. below - 1. */
    static void bad(String call, int want, int below, IntUnaryOperator asked) {
        for (int number : beyond(below)) {
            due(call + "(" + number + ")", want, asked.applyAsInt(number));
        }
    }

    /** The same of two numbers: the one, the other, or both outside. */
    static void bad(String call, int want, int firstBelow, int secondBelow, IntBinaryOperator asked) {
        for (int first : beyond(firstBelow)) {
            for (int second = 0; second < secondBelow; second++) {
                due(call + "(" + first + ", " + second + ")", want, asked.applyAsInt(first, second));
            }
        }
        for (int second : beyond(secondBelow)) {
            for (int first = 0; first < firstBelow; first++) {
                due(call + "(" + first + ", " + second + ")", want, asked.applyAsInt(first, second));
            }
            due(call + "(" + second + ", " + second + ")", want, asked.applyAsInt(second, second));
        }
    }

    /** What town() answers of a text, by a new object. */
    static int told(String text) {
        RoomBorn x = new RoomBorn();
        type(x, text);
        return x.town();
    }

    /** Types a text and leaves it untold. */
    static void type(RoomBorn x, String text) {
        for (int i = 0; i < text.length(); i++) {
            x.type(text.charAt(i));
        }
    }

    /** A new town, told by the text. */
    static RoomBorn town(String text) {
        RoomBorn x = new RoomBorn();
        type(x, text);
        int items = x.town();
        if (items < 0) {
            yes("the text stands: " + text, false);
        }
        return x;
    }
}
