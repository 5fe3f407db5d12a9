/** Counts and prints the answers that are not the ones that are due. */
final class Check {
    private static int wrong = 0;
    private static int asked = 0;
    private static String promise = "";

    private Check() {
    }

    static void promise(int number, String what) {
        promise = "promise " + number + " (" + what + ")";
    }

    static void due(String call, long want, long got) {
        asked++;
        if (got != want) {
            wrong++;
            System.out.println(promise + ": " + call + " answered " + got + ", due is " + want);
        }
    }

    static void yes(String what, boolean holds) {
        asked++;
        if (!holds) {
            wrong++;
            System.out.println(promise + ": does not hold: " + what);
        }
    }

    static void end() {
        System.out.println(asked + " answers, " + wrong + " wrong");
        if (wrong != 0) {
            System.exit(1);
        }
    }

    /** Types a text and leaves it untold. */
    static void type(RoomBorn x, String text) {
        for (int i = 0; i < text.length(); i++) {
            x.type(text.charAt(i));
        }
    }

    /** A new town, told by the text. */
    static RoomBorn town(String text) {
        RoomBorn x = new RoomBorn();
        type(x, text);
        int items = x.town();
        if (items < 0) {
            yes("the text stands: " + text, false);
        }
        return x;
    }
}
