/** Promises 9 to 13: bears, year, joins, builds, undo. */
public final class DoneTest {
    public static void main(String[] args) {
        bearing();
        years();
        joining();
        building();
        undoing();
        theLatestTen();
        refusedOnesAreNotUndone();
        Check.end();
    }

    private static void bearing() {
        Check.promise(9, "bears");
        RoomBorn x = Check.town("m6;l30;a5;a29;a30;a98;");
        Check.due("bears(0, 1)", 29, x.bears(0, 1));
        Check.due("it lives", 1, x.now(1));
        Check.due("bears(1, 2), of LIFE", 30, x.bears(1, 2));
        Check.due("it does not live", 1, x.now(1));
        Check.due("it is born", 3, x.now(2));
        Check.due("bears(0, 0) again", -2, x.bears(0, 0));
        Check.due("bears(1, 0) again, the first dead", -2, x.bears(1, 0));
        Check.due("bears(0, 4), BAD ahead of STATE", -1, x.bears(0, 4));
        x.joins(0, 3);
        Check.due("bears(2, 0), AGE", 51, x.bears(2, 0));
        x.joins(0, 1);
        Check.due("bears(5, 3), AGE cut", 44, x.bears(5, 3));
        Check.due("bears(6, 0)", -1, x.bears(6, 0));
        Check.due("bears(-1, 0)", -1, x.bears(-1, 0));
        Check.due("bears(3, -1)", -1, x.bears(3, -1));
        Check.due("bears(3, 4)", -1, x.bears(3, 4));
        Check.due("bears, no rooms", -1, new RoomBorn().bears(0, 0));
        RoomBorn old = Check.town("a70;");
        old.bears(0, 0);
        old.builds(0);
        Check.due("born once for all", -2, old.bears(0, 0));
    }

    private static void years() {
        Check.promise(10, "year");
        RoomBorn x = Check.town("m4;l12;a10;a11;a3;");
        x.bears(0, 0);
        x.bears(1, 1);
        x.bears(2, 1);
        x.joins(0, 1);
        Check.due("year()", 2, x.year());
        Check.due("now(0)", 1, x.now(0));
        Check.due("room(0, 0)", 11, x.room(0, 0));
        Check.due("room(1, 0)", 12, x.room(1, 0));
        Check.due("room(2, 0)", 4, x.room(2, 0));
        Check.due("child(0, 2)", 11, x.child(0, 2));
        Check.due("child(1, 2)", -9, x.child(1, 2));
        Check.due("joined yet", 3, x.room(0, 2));
        Check.due("year()", 1, x.year());
        Check.due("year(), all dead", 0, x.year());
        for (int i = 3; i < 99; i++) {
            Check.due("year() " + i, 0, x.year());
        }
        Check.due("year() of year 99", -2, x.year());
        Check.due("now(0)", 99, x.now(0));
        Check.due("room(0, 0), older than 99", 109, x.room(0, 0));
    }

    private static void joining() {
        Check.promise(11, "joins");
        RoomBorn x = Check.town("a1;a2;a4;a8;a16;a33;");
        Check.due("joins(5, 4)", 24, x.joins(5, 4));
        Check.due("joins(0, 1)", 1, x.joins(0, 1));
        Check.due("joins(1, 5), all with all", 13, x.joins(1, 5));
        for (int r : new int[] {0, 1, 4, 5}) {
            Check.due("room(" + r + ", 2)", 51, x.room(r, 2));
            Check.due("room(" + r + ", 1)", 13, x.room(r, 1));
        }
        Check.due("joins(0, 4), joined by others", -2, x.joins(0, 4));
        Check.due("joins(4, 0)", -2, x.joins(4, 0));
        Check.due("joins(2, 2)", -1, x.joins(2, 2));
        Check.due("joins(0, 0), joined with others", -1, x.joins(0, 0));
        Check.due("joins(2, 6)", -1, x.joins(2, 6));
        Check.due("joins(6, 2)", -1, x.joins(6, 2));
        Check.due("joins(-1, 2)", -1, x.joins(-1, 2));
        Check.due("joins(2, -1)", -1, x.joins(2, -1));
        Check.due("room(2, 2)", 4, x.room(2, 2));
        Check.due("now(4)", 3, x.now(4));
    }

    private static void building() {
        Check.promise(12, "builds");
        RoomBorn x = Check.town("m2;a10;a20;a33;a0;");
        x.joins(0, 1);
        x.joins(1, 2);
        x.bears(0, 0);
        Check.due("builds(1)", 20, x.builds(1));
        Check.due("room(1, 0)", 0, x.room(1, 0));
        Check.due("room(1, 2)", 2, x.room(1, 2));
        Check.due("the others stay joined", 5, x.room(0, 2));
        Check.due("the others stay joined", 5, x.room(2, 2));
        Check.due("their AGE", 21, x.room(0, 1));
        Check.due("the child stays", 21, x.child(0, 2));
        Check.due("builds(1) again", -2, x.builds(1));
        Check.due("builds(3), told so", -2, x.builds(3));
        x.joins(3, 1);
        Check.due("builds(3), 0 but joined", 0, x.builds(3));
        Check.due("room(3, 2)", 8, x.room(3, 2));
        Check.due("room(1, 2)", 2, x.room(1, 2));
        x.year();
        Check.due("builds(1), a year old", 1, x.builds(1));
        Check.due("builds(4)", -1, x.builds(4));
        Check.due("builds(-1)", -1, x.builds(-1));
    }

    private static void undoing() {
        Check.promise(13, "undo");
        RoomBorn x = Check.town("m3;l20;a10;a19;a3;w0 9;");
        Check.due("undo()", -2, x.undo());
        x.bears(0, 0);
        x.joins(0, 1);
        x.bears(1, 1);
        x.bears(2, 1);
        x.joins(2, 1);
        for (int i = 0; i < 6; i++) {
            x.year();
        }
        Check.due("the last two die", 0, x.now(1) & 6);
        x.undo();
        Check.due("undo()", 9, x.now(4));
        Check.due("they live", 6, x.now(1) & 6);
        Check.due("as old as they were", 19, x.child(1, 2));
        Check.due("now(0)", 5, x.now(0));
        Check.due("room(0, 0)", 15, x.room(0, 0));
        x.sees(0, 1);
        x.keep(1);
        x.rate(0, 0);
        for (int more = 8; more >= 5; more--) {
            Check.due("undo()", more, x.undo());
        }
        Check.due("now(0)", 1, x.now(0));
        Check.due("undo() of a year", 4, x.undo());
        Check.due("now(0)", 0, x.now(0));
        Check.due("undo() of joins()", 3, x.undo());
        Check.due("room(2, 2)", 4, x.room(2, 2));
        Check.due("room(0, 2)", 3, x.room(0, 2));
        Check.due("undo() of bears()", 2, x.undo());
        Check.due("now(2)", 3, x.now(2));
        Check.due("SEEN stays", 1, x.count(4));
        Check.due("the trace goes on", 1, x.trace());
        Check.due("the image stays", 5, x.back(1));
        Check.due("nothing can be undone behind back()", -2, x.undo());
    }

    private static void theLatestTen() {
        Check.promise(13, "undo");
        RoomBorn x = Check.town("a0;");
        for (int i = 0; i < 23; i++) {
            x.year();
            Check.due("now(4)", Math.min(i + 1, 10), x.now(4));
        }
        for (int more = 9; more >= 6; more--) {
            Check.due("undo()", more, x.undo());
        }
        Check.due("now(0)", 19, x.now(0));
        x.builds(0);
        Check.due("now(4)", 7, x.now(4));
        for (int more = 6; more >= 0; more--) {
            Check.due("undo()", more, x.undo());
            Check.due("now(0)", 13 + more, x.now(0));
            Check.due("room(0, 0)", 13 + more, x.room(0, 0));
        }
        Check.due("undo(), older ones are lost", -2, x.undo());
        Check.due("now(0)", 13, x.now(0));
    }

    private static void refusedOnesAreNotUndone() {
        Check.promise(13, "undo");
        RoomBorn x = Check.town("a0;a5;");
        x.bears(0, 1);
        x.bears(0, 1);
        x.bears(7, 1);
        x.joins(0, 0);
        x.builds(0);
        x.builds(9);
        x.undo();
        Check.due("undo()", -2, x.undo());
        Check.due("now(2)", 0, x.now(2));
        x.joins(0, 1);
        x.joins(0, 1);
        Check.due("now(4)", 1, x.now(4));
        x.keep(0);
        Check.due("keep() is not undone", 1, x.now(4));
    }
}
