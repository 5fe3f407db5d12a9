import java.io.IOException;
import java.nio.file.Files;
import java.nio.file.Path;
import java.util.regex.Pattern;

/** What the document says ahead of its terms, of the face, and behind its promises. */
final class FirstSentences {
    private static final String TOWN = "m3;l60;a5;a40;a61;w0 9;w20 45;w5 7;";
    private static final String SOURCE = source();

    /** The calls in the order of their promises: promise 1 is the first. */
    private static final String[] CALLS = {
        "RoomBorn()", "int type(int letter)", "int clear()", "int town()", "int room(int r, int what)",
        "int child(int c, int what)", "int work(int w, int what)", "int now(int what)", "int bears(int m, int r)",
        "int year()", "int joins(int a, int b)", "int builds(int r)", "int undo()", "int fills(int c)",
        "int carry(int m, int what)", "int join(int a)", "int elder(int k)", "int odds(int w, int what)",
        "int sees(int w, int can)", "int forget()", "int ages(int what)", "int next()", "int rate(int kind, int c)",
        "int keep(int image)", "int back(int image)", "int count(int what)", "long trace()"};

    private static final String[] CONSTANTS = {
        "public static final int BAD = -1, STATE = -2, FULL = -3, NONE = -9;", "public static final int NO = -1000000;"};

    private FirstSentences() {
    }

    static void all() {
        title();
        born();
        lives();
        told();
        undone();
        works();
        joinedForAnAge();
        howOld();
        older();
        oddsOfBirths();
        kindsAndImages();
        rooms();
        laterCalls();
        face();
        facesOrder();
        notPromised();
    }

    private static void title() {
        Doc.says("", "# RoomBorn");
        Check.yes("the class bears this name, in no package", RoomBorn.class.getName().equals("RoomBorn"));
    }

    private static void born() {
        Doc.says("What it is", "One's born at the age of the room:");
        int[] ages = {5, 40, 61};
        for (int r = 0; r < 3; r++) {
            RoomBorn x = Check.town(TOWN);
            Check.due("AGE of room " + r, ages[r], x.room(r, 1));
            Check.due("who comes there", ages[r], x.bears(2, r));
        }
    }

    private static void lives() {
        Doc.says("What it is", "in this patched old warren of a town a child is as old as where it comes, and lives only as long as there's room to;");
        RoomBorn x = Check.town(TOWN);
        x.bears(0, 0);
        x.bears(1, 1);
        x.bears(2, 2);
        Check.due("who lives", 3, x.now(1));
        for (int i = 0; i < 19; i++) {
            Check.due("who dies", 0, x.year());
        }
        Check.due("of 59", 59, x.child(1, 2));
        Check.due("of 60, who dies", 1, x.year());
        Check.due("who lives then", 1, x.now(1));
    }

    private static void told() {
        Doc.says("What it is", "rooms by age, walls knocked through, mothers, works by age, told by a text;");
        RoomBorn x = new RoomBorn();
        Check.type(x, TOWN);
        Check.due("told by a text", 8, x.town());
        Check.due("rooms", 3, x.count(0));
        Check.due("by age", 40, x.room(1, 0));
        Check.due("walls knocked through", 50, x.joins(1, 2));
        Check.due("mothers", 3, x.count(1));
        Check.due("works", 3, x.count(2));
        Check.due("by age, from", 20, x.work(1, 0));
        Check.due("by age, to", 45, x.work(1, 1));
    }

    private static void undone() {
        Doc.says("What it is", "births, years, rooms built anew, all of it undone;");
        RoomBorn x = Check.town(TOWN);
        String ahead = Look.all(x);
        Check.due("a birth", 5, x.bears(0, 0));
        Check.due("a year", 0, x.year());
        Check.due("a room built anew", 41, x.builds(1));
        Check.due("a wall", 31, x.joins(1, 2));
        for (int more = 3; more >= 0; more--) {
            Check.due("undone", more, x.undo());
        }
        Check.yes("all of it", ahead.equals(Look.all(x)));
    }

    /** Child 0 is of age 5, child 1 of age 40, child 2 is not born. */
    private static RoomBorn withTwo() {
        RoomBorn x = Check.town(TOWN);
        x.bears(0, 0);
        x.bears(1, 1);
        return x;
    }

    private static void works() {
        Doc.says("What it is", "who can do which work, how many works can be filled, by whom, to which room a mother should be carried, for how long a work has somebody;");
        RoomBorn x = withTwo();
        int[] who = {1, 2, 1};
        int[] which = {5, 2, 0};
        int[] does = {0, 1, -9};
        int[] lasts = {5, 6, 3};
        for (int i = 0; i < 3; i++) {
            Check.due("who can do work " + i, who[i], x.work(i, 2));
            Check.due("which works child " + i + " can do", which[i], x.child(i, 3));
            Check.due("by whom: child " + i, does[i], x.fills(i));
            Check.due("for how long work " + i + " has somebody", lasts[i], x.work(i, 3));
        }
        Check.due("how many are filled", 2, x.now(3));
        Check.due("to which room", 0, x.carry(2, 0));
        Check.due("how many then", 3, x.carry(2, 1));
    }

    private static void joinedForAnAge() {
        Doc.says("What it is", "which rooms are to be joined for a told age;");
        RoomBorn x = Check.town(TOWN);
        int[] ages = {5, 40, 22, 61, 33, 50, 35};
        for (int i = 0; i < ages.length; i++) {
            Check.due("join(" + ages[i] + ")", i + 1, x.join(ages[i]));
        }
        Check.due("join(6)", -9, x.join(6));
    }

    private static void howOld() {
        Doc.says("What it is", "how old one is, by the works that were done, which work to try next;");
        RoomBorn x = Check.town(TOWN);
        x.sees(0, 0);
        Check.due("how many ages", 90, x.ages(0));
        Check.due("which to try", 1, x.next());
        x.sees(1, 1);
        Check.due("how many ages", 26, x.ages(0));
        Check.due("from", 20, x.ages(1));
        Check.due("to", 45, x.ages(2));
    }

    private static void older() {
        Doc.says("What it is", "who is older;");
        RoomBorn x = withTwo();
        Check.due("the older", 1, x.elder(0));
        Check.due("the younger", 0, x.elder(1));
    }

    private static void oddsOfBirths() {
        Doc.says("What it is", "the odds of births on the chance;");
        RoomBorn x = withTwo();
        Check.due("upper", 1, x.odds(0, 0));
        Check.due("lower", 3, x.odds(0, 1));
    }

    private static void kindsAndImages() {
        Doc.says("What it is", "people by kinds; images.");
        RoomBorn x = withTwo();
        x.keep(0);
        x.year();
        int[] rates = {6, 7, 4, 14, 4, 8};
        for (int kind = 0; kind < 6; kind++) {
            Check.due("rate(" + kind + ", 0)", rates[kind], x.rate(kind, 0));
        }
        Check.due("an image", 0, x.back(0));
        Check.due("as it was", 5, x.child(0, 2));
    }

    private static void rooms() {
        Doc.says("What it is", "ROOMS 0 ..");
        RoomBorn x = Check.town(TOWN);
        Check.due("the first is 0", 5, x.room(0, 0));
        Check.due("the last", 61, x.room(2, 0));
        Check.due("no more", -1, x.room(3, 0));
    }

    /** The answers are free, but LANGUAGE.md has no call throw or fail to end, in any state. */
    private static void laterCalls() {
        Doc.says("What it is", "what later calls answer is free.");
        RoomBorn x = Check.town(TOWN);
        for (int round = 0; round < 60; round++) {
            for (int a = -1; a <= 6; a++) {
                for (int b = -1; b <= 3; b++) {
                    allCalls(x, a, b, round);
                }
            }
        }
        Check.yes("none threw, each came to an end", x.trace() > 0);
    }

    private static void allCalls(RoomBorn x, int a, int b, int round) {
        x.bears(a, b);
        x.joins(a, b);
        x.year();
        x.rate(a, b);
        x.sees(a, b);
        x.keep(a);
        Look.all(x);
        x.builds(b);
        x.undo();
        x.room(a, b);
        x.child(a, b);
        x.work(a, b);
        x.type(TOWN.charAt((round + 6 * a + b + 7) % TOWN.length()));
        if (round % 7 == 0) {
            x.back(a);
        }
        if (round % 11 == 0) {
            x.forget();
            x.town();
            x.clear();
        }
    }

    private static void face() {
        Doc.says("The public face", "public final class RoomBorn {");
        Check.yes("the class stands so", SOURCE.contains("\npublic final class RoomBorn {\n"));
        for (String constants : CONSTANTS) {
            Doc.says("The public face", constants);
            Check.yes("they stand so", SOURCE.contains("\n    " + constants + "\n"));
        }
        for (int i = 0; i < CALLS.length; i++) {
            Doc.says("The public face", "public " + CALLS[i] + ";");
            Check.yes("it stands so, once", parts("\n    public " + CALLS[i] + " {\n") == 2);
            Doc.says("Promise " + (i + 1), "`" + CALLS[i] + "`:");
        }
        Doc.says("The public face", "}");
        Check.due("what is public", 1 + CONSTANTS.length + CALLS.length, parts("public ") - 1);
    }

    private static int parts(String by) {
        return SOURCE.split(Pattern.quote(by), -1).length;
    }

    private static void facesOrder() {
        String[] heads = {"the town.", "what is done.", "works.", "how old.", "kinds, images."};
        int[] firsts = {1, 8, 13, 18, 22, CALLS.length};
        int at = SOURCE.indexOf("public RoomBorn()");
        for (int h = 0; h < heads.length; h++) {
            StringBuilder names = new StringBuilder();
            for (int i = firsts[h]; i < firsts[h + 1]; i++) {
                names.append(names.length() == 0 ? "`" : ", `").append(CALLS[i].replaceAll("^\\w+ (\\w+).*", "$1")).append('`');
            }
            Doc.says("Terms", "Ahead of the calls " + names + " the interface says: ---- " + heads[h]);
            int head = SOURCE.indexOf("    // ---- " + heads[h] + "\n");
            Check.yes("it says so behind the calls ahead of these", head > at);
            at = head;
            for (int i = firsts[h]; i < firsts[h + 1]; i++) {
                int call = SOURCE.indexOf("public " + CALLS[i] + " {");
                Check.yes(CALLS[i] + " stands behind the one ahead of it", call > at);
                at = call;
            }
        }
    }

    /** Nothing to hold to: these say what is free. They are named so that a change of them is seen. */
    private static void notPromised() {
        Doc.says("Not promised", "How the state is held inside the object is free, as are the speed of each call, the text of toString and the behaviour of equals and hashCode.");
        Doc.says("Not promised", "Use of one object from several threads at once is not promised to be safe.");
        Doc.says("Not promised", "Nothing is promised beyond the answers and state changes described above, and nothing about an object after its 512th call.");
    }

    private static String source() {
        try {
            return Files.readString(Path.of("src/main/java/RoomBorn.java"));
        } catch (IOException e) {
            throw new IllegalStateException("no program", e);
        }
    }
}
