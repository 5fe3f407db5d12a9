/** Promises 1 to 4: a new object, type, clear, town. */
public final class TextTest {
    public static void main(String[] args) {
        aNewObject();
        typing();
        clearing();
        telling();
        blanks();
        faults();
        numbers();
        tellingAnew();
        aFaultChangesNothing();
        Check.end();
    }

    private static void aNewObject() {
        Check.promise(1, "a new object");
        RoomBorn x = new RoomBorn();
        int[] counts = {0, 3, 0, 70, 0, 0};
        for (int what = 0; what < counts.length; what++) {
            Check.due("count(" + what + ")", counts[what], x.count(what));
        }
        for (int what = 0; what < 5; what++) {
            Check.due("now(" + what + ")", 0, x.now(what));
        }
        Check.due("room(0, 0)", -1, x.room(0, 0));
        Check.due("work(0, 0)", -1, x.work(0, 0));
        Check.due("child(2, 0)", 0, x.child(2, 0));
        Check.due("child(3, 0)", -1, x.child(3, 0));
        Check.due("undo()", -2, x.undo());
        Check.due("back(0)", -2, x.back(0));
        Check.due("back(1)", -2, x.back(1));
        Check.due("trace()", 0, x.trace());
        Check.due("BAD", -1, RoomBorn.BAD);
        Check.due("STATE", -2, RoomBorn.STATE);
        Check.due("FULL", -3, RoomBorn.FULL);
        Check.due("NONE", -9, RoomBorn.NONE);
        Check.due("NO", -1000000, RoomBorn.NO);
    }

    private static void typing() {
        Check.promise(2, "type");
        RoomBorn x = new RoomBorn();
        Check.due("type(-1)", -1, x.type(-1));
        Check.due("type(256)", -1, x.type(256));
        Check.due("type(least)", -1, x.type(Integer.MIN_VALUE));
        Check.due("type(greatest)", -1, x.type(Integer.MAX_VALUE));
        Check.due("type(0)", 1, x.type(0));
        Check.due("type(255)", 2, x.type(255));
        for (int i = 3; i <= 120; i++) {
            Check.due("type(32)", i, x.type(32));
        }
        Check.due("type(32), the 121st", -3, x.type(32));
        Check.due("type(256), BAD ahead of FULL", -1, x.type(256));
        Check.due("count(5)", 120, x.count(5));
    }

    private static void clearing() {
        Check.promise(3, "clear");
        RoomBorn x = new RoomBorn();
        Check.due("clear()", 0, x.clear());
        Check.type(x, "zz z");
        Check.due("clear()", 4, x.clear());
        Check.due("count(5)", 0, x.count(5));
        Check.due("clear()", 0, x.clear());
        Check.type(x, "a1;");
        Check.due("town()", 1, x.town());
        Check.due("clear() changes no town", 0, x.clear());
        Check.due("count(0)", 1, x.count(0));
    }

    private static void telling() {
        Check.promise(4, "town");
        RoomBorn x = new RoomBorn();
        Check.type(x, "l99;w0 99;a7;m6;a99;w5 5;a0;");
        Check.due("town()", 7, x.town());
        int[] counts = {3, 6, 2, 99, 0, 0};
        for (int what = 0; what < counts.length; what++) {
            Check.due("count(" + what + ")", counts[what], x.count(what));
        }
        Check.due("room(0, 0)", 7, x.room(0, 0));
        Check.due("room(1, 0)", 99, x.room(1, 0));
        Check.due("room(2, 0)", 0, x.room(2, 0));
        Check.due("work(0, 0)", 0, x.work(0, 0));
        Check.due("work(0, 1)", 99, x.work(0, 1));
        Check.due("work(1, 0)", 5, x.work(1, 0));
        Check.due("work(1, 1)", 5, x.work(1, 1));
        Check.type(x, "m1;l10;");
        Check.due("town()", 2, x.town());
        Check.due("count(1)", 1, x.count(1));
        Check.due("count(3)", 10, x.count(3));
        Check.due("town(), empty", 0, x.town());
        Check.due("count(0)", 0, x.count(0));
        Check.due("count(1)", 3, x.count(1));
        Check.due("count(2)", 0, x.count(2));
        Check.due("count(3)", 70, x.count(3));
    }

    private static void blanks() {
        Check.promise(4, "town");
        Check.due("all the room that there is", 13, told("a1;a2;a3;a4;a5;a6;w0 1;w0 2;w0 3;w0 4;w0 5;m6;l99;"));
        Check.due("blanks alone", 0, told("   "));
        Check.due("blanks at each place", 3, told("  a  5  ;  w  3   9 ; m 2 ;  "));
        Check.due("no blanks where none are needed", 2, told("m2;a5;"));
        Check.due("no blank between two numbers", -13, told("w39;"));
        StringBuilder longest = new StringBuilder("a5;");
        while (longest.length() < 120) {
            longest.append(' ');
        }
        Check.due("120 letters", 1, told(longest.toString()));
        Check.due("a tab", -11, told("a\t5;"));
    }

    private static void faults() {
        Check.promise(4, "town");
        Check.due("a seventh a", -28, told("a1;a1;a1;a1;a1;a1;a1;"));
        Check.due("a seventh a behind blanks", -30, told("a1;a1;a1;a1;a1;a1;  a1;"));
        Check.due("a sixth w", -35, told("w0 0;w0 0;w0 0;w0 0;w0 0;w0 0;"));
        Check.due("m again", -13, told("m1;m1;"));
        Check.due("l again", -17, told("l10;a1;l10;"));
        Check.due("m again behind a fault", -14, told("m1;ax;m1;"));
        Check.due("HIGH less than LOW", -13, told("w5 4;"));
        Check.due("HIGH like LOW", 1, told("w5 5;"));
        Check.due("m 0", -11, told("m0;"));
        Check.due("m 7", -11, told("m7;"));
        Check.due("l 9", -12, told("l 9;"));
        Check.due("l 10", 1, told("l 10;"));
        Check.due("another letter", -10, told("y"));
        Check.due("a capital letter", -10, told("A5;"));
        Check.due("a letter of 255", -12, told("a5\u00ff;"));
        Check.due("a letter of 0", -12, told("a5\u0000;"));
        Check.due("a minus", -11, told("a-5;"));
        Check.due("no number", -11, told("a;"));
        Check.due("an empty item", -10, told(";"));
        Check.due("an item that is ended twice", -13, told("a5;;"));
        Check.due("a number alone", -10, told("5;"));
        Check.due("two numbers of a", -13, told("a5 5;"));
        Check.due("three numbers of w", -15, told("w5 6 7;"));
        Check.due("one number of w", -12, told("w5;"));
        Check.due("no end", -12, told("a5"));
        Check.due("no end, the next item", -12, told("a5a5;"));
        Check.due("too early, behind blanks", -15, told("a5   "));
        Check.due("too early, behind a", -14, told("a5;a"));
        Check.due("too early, w", -12, told("w5"));
        Check.due("too early, behind a w", -11, told("w"));
    }

    private static void numbers() {
        Check.promise(4, "town");
        Check.due("99", 1, told("a99;"));
        Check.due("100", -11, told("a100;"));
        Check.due("100 of LOW", -11, told("w100 100;"));
        Check.due("100 of HIGH", -13, told("w1 100;"));
        Check.due("0 ahead of others", -11, told("m01;"));
        Check.due("00", -12, told("a 00;"));
        Check.due("0 ahead of others, HIGH", -13, told("w1 05;"));
        Check.due("0 alone", 1, told("a0;"));
        Check.due("10, a 0 behind", 1, told("a10;"));
        Check.due("a number behind whose place stands none", -10, told("100"));
        Check.due("a long number", -11, told("a4294967297;"));
        Check.due("a longer one", -11, told("a18446744073709551621184467440737095516211844674407370955162;"));
        Check.due("a long one of zeros", -11, told("a00000000000000000000000000000000000000000000000000;"));
    }

    private static void tellingAnew() {
        Check.promise(4, "town");
        RoomBorn x = Check.town("a5;a9;w0 99;m1;l99;");
        x.bears(0, 0);
        x.joins(0, 1);
        x.year();
        x.sees(0, 1);
        x.keep(0);
        x.keep(1);
        x.rate(1, 0);
        Check.type(x, "a4;a6;");
        Check.due("town()", 2, x.town());
        Check.due("now(0)", 0, x.now(0));
        Check.due("now(1)", 0, x.now(1));
        Check.due("now(2)", 0, x.now(2));
        Check.due("now(4)", 0, x.now(4));
        Check.due("undo()", -2, x.undo());
        Check.due("room(0, 0)", 4, x.room(0, 0));
        Check.due("room(0, 1)", 4, x.room(0, 1));
        Check.due("room(0, 2)", 1, x.room(0, 2));
        Check.due("room(1, 2)", 2, x.room(1, 2));
        Check.due("count(1)", 3, x.count(1));
        Check.due("count(2)", 0, x.count(2));
        Check.due("count(3)", 70, x.count(3));
        Check.due("count(4)", 0, x.count(4));
        Check.due("ages(0)", 100, x.ages(0));
        Check.due("back(0)", -2, x.back(0));
        Check.due("back(1)", -2, x.back(1));
        Check.due("trace() goes on", 11, x.trace());
    }

    private static void aFaultChangesNothing() {
        Check.promise(4, "town");
        RoomBorn x = Check.town("a5;a9;w0 40;m2;l50;");
        x.bears(1, 1);
        x.sees(0, 1);
        x.keep(0);
        Check.type(x, "a1;w1 2;m5;l20;q");
        Check.due("town()", -25, x.town());
        Check.due("town() again", -25, x.town());
        Check.due("count(5)", 16, x.count(5));
        Check.due("count(0)", 2, x.count(0));
        Check.due("count(1)", 2, x.count(1));
        Check.due("count(2)", 1, x.count(2));
        Check.due("count(3)", 50, x.count(3));
        Check.due("count(4)", 1, x.count(4));
        Check.due("room(0, 0)", 5, x.room(0, 0));
        Check.due("work(0, 1)", 40, x.work(0, 1));
        Check.due("now(2)", 2, x.now(2));
        Check.due("now(4)", 1, x.now(4));
        Check.due("back(0)", 0, x.back(0));
        Check.due("clear()", 16, x.clear());
    }

    private static int told(String text) {
        RoomBorn x = new RoomBorn();
        Check.type(x, text);
        return x.town();
    }
}
