/** Promises 23 to 27: rate, keep, back, count, trace. */
public final class KindsTest {
    public static void main(String[] args) {
        rating();
        ratingWrongly();
        keeping();
        goingBack();
        counting();
        tracing();
        Check.end();
    }

    private static void rating() {
        Check.promise(23, "rate");
        RoomBorn x = Check.town("m5;l60;a4;a59;w0 99;w5 10;w7 7;");
        x.bears(3, 0);
        x.bears(1, 1);
        x.year();
        x.year();
        x.year();
        x.bears(0, 0);
        int[] ofThree = {7, 10, 4, 20, 7, 9};
        int[] unborn = {0, 3, 0, 6, 4, 2};
        int[] dead = {0, 3, 0, 6, 1, 2};
        for (int kind = 0; kind < 6; kind++) {
            Check.due("rate(" + kind + ", 3)", ofThree[kind], x.rate(kind, 3));
            Check.due("rate(" + kind + ", 4)", unborn[kind], x.rate(kind, 4));
            Check.due("rate(" + kind + ", 1)", dead[kind], x.rate(kind, 1));
        }
        RoomBorn low = Check.town("a0;w0 9;w0 0;");
        low.bears(0, 0);
        Check.due("rate(2, 0), below 0", -2, low.rate(2, 0));
        Check.due("rate(4, 0), below 0", -2, low.rate(4, 0));
    }

    private static void ratingWrongly() {
        Check.promise(23, "rate");
        RoomBorn x = Check.town("a3;m2;");
        Check.due("rate(-1, 0)", -1000000, x.rate(-1, 0));
        Check.due("rate(6, 0)", -1000000, x.rate(6, 0));
        Check.due("rate(0, -1)", -1000000, x.rate(0, -1));
        Check.due("rate(0, 2)", -1000000, x.rate(0, 2));
        Check.due("rate(5, 2)", -1000000, x.rate(5, 2));
        Check.due("no body was asked", 0, x.trace());
    }

    private static void keeping() {
        Check.promise(24, "keep");
        RoomBorn x = Check.town("a3;");
        x.year();
        Check.due("keep(0)", 1, x.keep(0));
        x.year();
        Check.due("keep(1)", 2, x.keep(1));
        x.year();
        Check.due("keep(1) again", 3, x.keep(1));
        Check.due("keep(2)", -1, x.keep(2));
        Check.due("keep(-1)", -1, x.keep(-1));
        Check.due("back(0)", 1, x.back(0));
        Check.due("back(1)", 3, x.back(1));
        Check.due("undo()", -2, x.undo());
    }

    private static void goingBack() {
        Check.promise(25, "back");
        RoomBorn x = Check.town("m4;l20;a10;a19;a0;w0 99;");
        x.bears(0, 0);
        x.bears(1, 1);
        x.joins(0, 1);
        x.year();
        x.keep(0);
        Check.due("back(1), none kept", -2, x.back(1));
        Check.due("back(2)", -1, x.back(2));
        Check.due("back(-1)", -1, x.back(-1));
        Check.due("now(4)", 4, x.now(4));
        x.builds(0);
        x.joins(0, 2);
        x.bears(2, 2);
        x.sees(0, 1);
        x.rate(0, 0);
        Check.type(x, "a5");
        for (int i = 0; i < 30; i++) {
            x.year();
        }
        Check.due("now(1)", 0, x.now(1));
        Check.due("back(0)", 1, x.back(0));
        Check.due("now(1)", 1, x.now(1));
        Check.due("now(2)", 3, x.now(2));
        Check.due("child(0, 2)", 11, x.child(0, 2));
        Check.due("room(0, 0)", 11, x.room(0, 0));
        Check.due("room(0, 2)", 3, x.room(0, 2));
        Check.due("room(2, 2)", 4, x.room(2, 2));
        Check.due("room(2, 0)", 1, x.room(2, 0));
        Check.due("now(4)", 0, x.now(4));
        Check.due("undo()", -2, x.undo());
        Check.due("SEEN stays", 1, x.count(4));
        Check.due("THE TEXT stays", 2, x.count(5));
        Check.due("THE TRACE goes on", 1, x.trace());
        x.year();
        Check.due("an image stays as it was kept", 1, x.back(0));
        Check.due("child(0, 2)", 11, x.child(0, 2));
    }

    private static void counting() {
        Check.promise(26, "count");
        RoomBorn x = Check.town("a1;a2;m6;w1 2;w3 4;w5 6;l33;");
        x.sees(0, 1);
        Check.type(x, "hello");
        int[] due = {2, 6, 3, 33, 1, 5};
        for (int what = 0; what < due.length; what++) {
            Check.due("count(" + what + ")", due[what], x.count(what));
        }
        Check.due("count(-1)", -1, x.count(-1));
        Check.due("count(6)", -1, x.count(6));
    }

    private static void tracing() {
        Check.promise(27, "trace");
        long[] due = {1, 11, 101, 1011, 10101, 100001};
        for (int kind = 0; kind < due.length; kind++) {
            RoomBorn x = Check.town("a1;");
            x.rate(kind, 0);
            Check.due("trace() by rate(" + kind + ", 0)", due[kind], x.trace());
        }
        RoomBorn one = Check.town("a1;");
        for (int kind = 5; kind >= 0; kind--) {
            one.rate(kind, 0);
        }
        Check.due("trace() by all kinds", 111226, one.trace());
        RoomBorn x = Check.town("a1;w0 9;");
        x.bears(0, 0);
        x.keep(0);
        for (int i = 0; i < 400; i++) {
            x.rate(5, 1);
        }
        Check.due("trace()", 40000400, x.trace());
        x.undo();
        x.back(0);
        x.town();
        x.child(0, 2);
        x.fills(0);
        Check.due("trace()", 40000400, x.trace());
    }
}
