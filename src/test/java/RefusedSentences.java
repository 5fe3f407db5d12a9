import java.util.function.Supplier;
import java.util.function.ToIntFunction;

/** The terms on what is refused, in which order, and that nothing changes then. */
final class RefusedSentences {
    private RefusedSentences() {
    }

    static void all() {
        nothingChanges();
        theFirstOfThese();
        bad();
        state();
        full();
        no();
        calls();
    }

    /** A town of 4 rooms, 5 mothers, 3 works in which much was done, seen, kept and typed; image 1 was not kept. */
    private static RoomBorn lively() {
        RoomBorn x = Check.town("m5;l40;a10;a0;a35;a60;w5 20;w0 99;w30 40;");
        x.bears(0, 0);
        x.joins(0, 2);
        x.year();
        x.keep(0);
        x.bears(3, 3);
        x.builds(1);
        x.sees(1, 1);
        x.sees(0, 0);
        x.rate(4, 2);
        Check.type(x, "a5;");
        return x;
    }

    private static RoomBorn inTheLastYear() {
        RoomBorn x = lively();
        for (int year = x.now(0); year < 99; year++) {
            x.year();
        }
        return x;
    }

    private static RoomBorn withFullText() {
        RoomBorn x = lively();
        for (int letters = x.count(5); letters < 120; letters++) {
            x.type(' ');
        }
        return x;
    }

    private static RoomBorn withAllSeen() {
        RoomBorn x = lively();
        for (int known = x.count(4); known < 6; known++) {
            x.sees(1, 1);
        }
        return x;
    }

    private static RoomBorn withNothingDone() {
        RoomBorn x = lively();
        x.back(0);
        return x;
    }

    private static void refused(String call, int due, Supplier<RoomBorn> made, ToIntFunction<RoomBorn> called) {
        Check.due(call, due, called.applyAsInt(made.get()));
        Look.unchanged(call, made, called::applyAsInt);
    }

    private static void nothingChanges() {
        Doc.says("Terms", "Refused, and nothing changes,");
        for (int n : new int[] {Integer.MIN_VALUE, -1, 6, 32, Integer.MAX_VALUE}) {
            refused("bears(n, 1)", -1, RefusedSentences::lively, x -> x.bears(n, 1));
            refused("bears(1, n)", -1, RefusedSentences::lively, x -> x.bears(1, n));
            refused("joins(n, 1)", -1, RefusedSentences::lively, x -> x.joins(n, 1));
            refused("joins(1, n)", -1, RefusedSentences::lively, x -> x.joins(1, n));
            refused("builds(n)", -1, RefusedSentences::lively, x -> x.builds(n));
            refused("carry(n, 0)", -1, RefusedSentences::lively, x -> x.carry(n, 0));
            refused("carry(1, n)", -1, RefusedSentences::lively, x -> x.carry(1, n));
            refused("sees(n, 1)", -1, RefusedSentences::lively, x -> x.sees(n, 1));
            refused("sees(1, n)", -1, RefusedSentences::lively, x -> x.sees(1, n));
            refused("keep(n)", -1, RefusedSentences::lively, x -> x.keep(n));
            refused("back(n)", -1, RefusedSentences::lively, x -> x.back(n));
            refused("rate(n, 0)", -1000000, RefusedSentences::lively, x -> x.rate(n, 0));
            refused("rate(0, n)", -1000000, RefusedSentences::lively, x -> x.rate(0, n));
        }
        for (int n : new int[] {Integer.MIN_VALUE, -1, 256, Integer.MAX_VALUE}) {
            refused("type(n)", -1, RefusedSentences::lively, x -> x.type(n));
        }
        refused("joins(1, 1)", -1, RefusedSentences::lively, x -> x.joins(1, 1));
        refused("bears(0, 1)", -2, RefusedSentences::lively, x -> x.bears(0, 1));
        refused("bears(3, 1)", -2, RefusedSentences::lively, x -> x.bears(3, 1));
        refused("joins(2, 0)", -2, RefusedSentences::lively, x -> x.joins(2, 0));
        refused("builds(1)", -2, RefusedSentences::lively, x -> x.builds(1));
        refused("carry(0, 1)", -2, RefusedSentences::lively, x -> x.carry(0, 1));
        refused("back(1)", -2, RefusedSentences::lively, x -> x.back(1));
        refused("year()", -2, RefusedSentences::inTheLastYear, RoomBorn::year);
        refused("undo()", -2, RefusedSentences::withNothingDone, RoomBorn::undo);
        refused("type(32)", -3, RefusedSentences::withFullText, x -> x.type(32));
        refused("type(97)", -3, RefusedSentences::withFullText, x -> x.type(97));
        refused("sees(0, 1)", -3, RefusedSentences::withAllSeen, x -> x.sees(0, 1));
        refused("sees(0, 0)", -3, RefusedSentences::withAllSeen, x -> x.sees(0, 0));
    }

    private static void theFirstOfThese() {
        Doc.says("Terms", "the first of these:");
        RoomBorn x = lively();
        Check.due("bears(), BORN, no such ROOM", -1, x.bears(0, 4));
        Check.due("bears(), BORN", -2, x.bears(0, 3));
        Check.due("bears(), came dead, no such ROOM", -1, x.bears(3, -1));
        x.joins(0, 3);
        Check.due("joins(), JOINED, alike", -1, x.joins(0, 0));
        Check.due("joins(), JOINED", -2, x.joins(0, 3));
        Check.due("builds(), nothing to build, no such ROOM", -1, x.builds(4));
        Check.due("builds(), nothing to build", -2, x.builds(1));
        Check.due("carry(), BORN, no such what", -1, x.carry(0, 2));
        Check.due("carry(), BORN, no such what", -1, x.carry(3, -1));
        Check.due("carry(), BORN", -2, x.carry(0, 1));
        Check.due("back(), none kept, no such IMAGE", -1, x.back(2));
        Check.due("back(), none kept", -2, x.back(1));
        RoomBorn full = withFullText();
        Check.due("type(), full, no letter", -1, full.type(256));
        Check.due("type(), full, no letter", -1, full.type(-1));
        Check.due("type(), full", -3, full.type(255));
        RoomBorn all = withAllSeen();
        Check.due("sees(), full, no such WORK", -1, all.sees(3, 0));
        Check.due("sees(), full, no such can", -1, all.sees(0, 2));
        Check.due("sees(), full, no such can", -1, all.sees(0, -1));
        Check.due("sees(), full", -3, all.sees(2, 0));
        RoomBorn none = new RoomBorn();
        Check.due("bears() without rooms", -1, none.bears(0, 0));
        Check.due("back() of a new object", -2, none.back(0));
        Check.due("back(2) of a new object", -1, none.back(2));
    }

    private static void bad() {
        Doc.says("Terms", "BAD (a number is not as told, or there is no such thing),");
        RoomBorn x = new RoomBorn();
        Check.due("BAD", -1, RoomBorn.BAD);
        Check.due("no ROOM 0", RoomBorn.BAD, x.room(0, 0));
        Check.due("no ROOM 0", RoomBorn.BAD, x.bears(0, 0));
        Check.due("no ROOM 0, 1", RoomBorn.BAD, x.joins(0, 1));
        Check.due("no ROOM 0", RoomBorn.BAD, x.builds(0));
        Check.due("no WORK 0", RoomBorn.BAD, x.work(0, 0));
        Check.due("no WORK 0", RoomBorn.BAD, x.odds(0, 0));
        Check.due("no WORK 0", RoomBorn.BAD, x.sees(0, 0));
        Check.due("no CHILD 3", RoomBorn.BAD, x.child(3, 0));
        Check.due("no CHILD 3", RoomBorn.BAD, x.fills(3));
        Check.due("no MOTHER 3", RoomBorn.BAD, x.carry(3, 0));
        for (int many = 1; many <= 5; many++) {
            RoomBorn y = Check.town("m1;" + "a5;".repeat(many) + "w5 9;".repeat(many));
            Check.due("the last ROOM of " + many, 5, y.room(many - 1, 0));
            Check.due("no ROOM " + many, -1, y.room(many, 0));
            Check.due("the last WORK of " + many, 9, y.work(many - 1, 1));
            Check.due("no WORK " + many, -1, y.work(many, 1));
            Check.due("no WORK " + many, -1, y.sees(many, 1));
            Check.due("no WORK " + many, -1, y.odds(many, 1));
            Check.due("no ROOM " + many, -1, y.bears(0, many));
            Check.due("no ROOM " + many, -1, y.joins(0, many));
            Check.due("no ROOM " + many, -1, y.builds(many));
        }
        RoomBorn less = Check.town("m6;a1;a2;a3;a4;a5;a6;w1 2;w1 2;w1 2;w1 2;w1 2;");
        Check.type(less, "m2;a5;a6;w5 6;");
        Check.due("fewer than there were", 4, less.town());
        Check.due("a ROOM that was", -1, less.room(2, 0));
        Check.due("a CHILD that was", -1, less.child(2, 0));
        Check.due("a WORK that was", -1, less.work(1, 0));
    }

    private static void state() {
        Doc.says("Terms", "STATE (as told),");
        RoomBorn x = lively();
        Check.due("STATE", -2, RoomBorn.STATE);
        Check.due("it is BORN", RoomBorn.STATE, x.bears(0, 0));
        Check.due("they are JOINED", RoomBorn.STATE, x.joins(0, 2));
        Check.due("0 years OLD, alone", RoomBorn.STATE, x.builds(1));
        Check.due("its CHILD is BORN", RoomBorn.STATE, x.carry(0, 0));
        Check.due("none was kept", RoomBorn.STATE, x.back(1));
        Check.due("none to undo", RoomBorn.STATE, new RoomBorn().undo());
        Check.due("it is 99", RoomBorn.STATE, inTheLastYear().year());
        for (int known = x.now(4); known > 0; known--) {
            x.undo();
        }
        Check.due("no more BORN", 0, x.carry(0, 0));
        Check.due("no more BORN", 10, x.bears(0, 0));
        Check.due("no more JOINED", 22, x.joins(0, 2));
        Check.due("0 years OLD, alone, as told", RoomBorn.STATE, x.builds(1));
        Check.due("JOINED then", 30, x.joins(3, 1));
        Check.due("0 years OLD, JOINED", 0, x.builds(1));
        x.keep(1);
        Check.due("one was kept", 0, x.back(1));
    }

    private static void full() {
        Doc.says("Terms", "FULL.");
        Check.due("FULL", -3, RoomBorn.FULL);
        RoomBorn text = withFullText();
        Check.due("a full text", RoomBorn.FULL, text.type('a'));
        Check.due("it is told", 1, text.town());
        Check.due("an empty one", 1, text.type('a'));
        RoomBorn seen = withAllSeen();
        Check.due("all seen", RoomBorn.FULL, seen.sees(0, 1));
        Check.due("forgotten", 6, seen.forget());
        Check.due("none seen", 1, seen.sees(0, 1));
    }

    private static void no() {
        Doc.says("Terms", "The constants: `NO = -1000000`: What is BAD, where a number may be below 0.");
        Check.due("NO", -1000000, RoomBorn.NO);
        RoomBorn x = Check.town("a0;w0 9;m1;");
        x.bears(0, 0);
        Check.due("a number below 0", -1, x.rate(2, 0));
        for (int kind = 0; kind < 6; kind++) {
            Check.due("no CHILD 1 of KIND " + kind, RoomBorn.NO, x.rate(kind, 1));
        }
        Check.due("no KIND 6", RoomBorn.NO, x.rate(6, 0));
        Check.due("NONE", -9, RoomBorn.NONE);
    }

    private static void calls() {
        Doc.says("What it is", "An object is used for at most 512 calls after it has been made;");
        RoomBorn x = new RoomBorn();
        for (int i = 0; i < 256; i++) {
            Check.due("call " + 2 * i, 0, x.year());
            Check.due("call " + (2 * i + 1), 0, x.undo());
        }
        RoomBorn y = new RoomBorn();
        Check.type(y, "a5;");
        for (int i = 4; i < 512; i++) {
            Check.due("call " + i, i == 4 ? 1 : 0, y.town());
        }
        Check.due("call 512", 0, y.count(0));
    }
}
