/** Part 3 of the terms: what can be done, FILLED, CARRY, LASTS, JOIN, ELDER, SEEN, AGES, TRY, ODDS. */
final class AsksSentences {
    private AsksSentences() {
    }

    static void all() {
        asThingsAreNow();
        canDo();
        filled();
        filledFirst();
        filledHowMany();
        carry();
        carryNowhere();
        lasts();
        join();
        elder();
        seen();
        ages();
        tries();
        triesNone();
        odds();
        oddsWithoutRooms();
    }

    private static void asThingsAreNow() {
        Doc.says("Terms", "(As things are NOW; nothing is changed.)");
        Look.unchanged("all that asks", AsksSentences::lively, Look::all);
        Look.unchanged("join() of all ages", AsksSentences::lively, x -> {
            for (int a = 0; a <= 198; a++) {
                x.join(a);
            }
        });
        RoomBorn x = Check.town("m2;a5;w5 6;");
        Check.due("odds(0, 0)", 1, x.odds(0, 0));
        Check.due("carry(0, 1)", 1, x.carry(0, 1));
        Check.due("fills(0)", -9, x.fills(0));
        x.bears(0, 0);
        Check.due("fills(0), as it is then", 0, x.fills(0));
        x.year();
        x.year();
        Check.due("odds(0, 0), as it is then", 0, x.odds(0, 0));
        Check.due("carry(1, 1), as it is then", 0, x.carry(1, 1));
        Check.due("fills(0), as it is then", -9, x.fills(0));
        Check.due("join(7), as it is then", 1, x.join(7));
        x.undo();
        Check.due("fills(0), undone", 0, x.fills(0));
    }

    /** A town in which much was done, seen, kept and typed. */
    private static RoomBorn lively() {
        RoomBorn x = Check.town("m5;l40;a10;a0;a35;a60;w5 20;w0 99;w30 40;");
        x.keep(1);
        x.bears(0, 0);
        x.joins(0, 1);
        x.bears(2, 2);
        x.year();
        x.keep(0);
        x.bears(3, 3);
        x.builds(1);
        x.sees(1, 1);
        x.sees(0, 0);
        x.rate(4, 2);
        Check.type(x, "a5;");
        return x;
    }

    private static void canDo() {
        Doc.says("Terms", "One who LIVES can do a WORK, if it is of LOW to HIGH.");
        RoomBorn x = Check.town("m6;l60;a19;a20;a30;a31;w20 30;");
        int[] can = {0, 1, 1, 0};
        for (int c = 0; c < 4; c++) {
            x.bears(c, c);
            Check.due("child(" + c + ", 3)", can[c], x.child(c, 3));
        }
        Check.due("who can do it", 6, x.work(0, 2));
        x.year();
        int[] then = {1, 1, 0, 0};
        for (int c = 0; c < 4; c++) {
            Check.due("child(" + c + ", 3) then", then[c], x.child(c, 3));
        }
        Check.due("who is not born", 0, x.child(4, 3));
        RoomBorn one = Check.town("m4;l99;a0;a1;a98;a99;w0 0;w98 98;w99 99;w0 99;w1 98;");
        int[] bits = {9, 24, 26, 0};
        for (int c = 0; c < 4; c++) {
            one.bears(c, c);
            Check.due("LOW like HIGH, child " + c, bits[c], one.child(c, 3));
        }
        RoomBorn dead = Check.town("m2;l20;a19;a20;w0 99;");
        dead.bears(0, 0);
        dead.bears(1, 1);
        Check.due("who came dead", 0, dead.child(1, 3));
        dead.year();
        Check.due("who died", 0, dead.child(0, 3));
        Check.due("nobody LIVES", 0, dead.work(0, 2));
    }

    private static void filled() {
        Doc.says("Terms", "FILLED: of all ways in which each who LIVES does one WORK at most that he can do, no two the same,");
        RoomBorn x = Check.town("m2;a5;w0 9;w0 9;w0 9;");
        x.bears(1, 0);
        Check.due("one WORK at most", 1, x.now(3));
        x.bears(0, 0);
        Check.due("two do two", 2, x.now(3));
        Check.due("no two the same, 0", 0, x.fills(0));
        Check.due("no two the same, 1", 1, x.fills(1));
        RoomBorn y = Check.town("m6;a5;w0 9;w6 9;");
        for (int m = 0; m < 6; m++) {
            y.bears(m, 0);
        }
        Check.due("six who can do one", 1, y.now(3));
        Check.due("who can't do it", 0, y.work(1, 2));
        RoomBorn five = Check.town("m6;a5;w0 9;w0 9;w0 9;w0 9;w0 9;");
        for (int m = 0; m < 6; m++) {
            five.bears(m, 0);
        }
        Check.due("six who can do five", 5, five.now(3));
        int[] due = {0, 1, 2, 3, 4, -9};
        for (int c = 0; c < 6; c++) {
            Check.due("fills(" + c + ") of six", due[c], five.fills(c));
        }
        RoomBorn dead = Check.town("m2;l10;a9;a5;w5 9;");
        dead.bears(0, 0);
        dead.bears(1, 1);
        Check.due("the first who LIVES", 0, dead.fills(0));
        dead.year();
        Check.due("who died does none", -9, dead.fills(0));
        Check.due("the next who LIVES", 0, dead.fills(1));
    }

    private static void filledFirst() {
        Doc.says("Terms", "that by which most WORKS are done, of several the first (CHILD by CHILD, the lowest WORK, none last):");
        RoomBorn most = Check.town("m3;a10;a20;a30;w10 20;w10 10;w20 30;");
        most.bears(0, 0);
        most.bears(1, 1);
        Check.due("the lowest for 0", 0, most.fills(0));
        Check.due("what is left for 1", 2, most.fills(1));
        most.bears(2, 2);
        Check.due("most are done", 3, most.now(3));
        Check.due("not the lowest for 0, by most", 1, most.fills(0));
        Check.due("the lowest for 1, by most", 0, most.fills(1));
        Check.due("the last for 2", 2, most.fills(2));
        RoomBorn none = Check.town("m3;a5;w5 5;");
        none.bears(2, 0);
        Check.due("the one who LIVES", 0, none.fills(2));
        none.bears(1, 0);
        Check.due("none last: the lower number", 0, none.fills(1));
        Check.due("none is left for the higher", -9, none.fills(2));
        none.bears(0, 0);
        Check.due("none last: the lowest number", 0, none.fills(0));
        Check.due("none is left, 1", -9, none.fills(1));
        Check.due("none is left, 2", -9, none.fills(2));
        RoomBorn chain = Check.town("m5;a1;a2;a3;a4;a5;w4 5;w3 4;w2 3;w1 2;w1 1;");
        for (int m = 0; m < 5; m++) {
            chain.bears(m, m);
        }
        for (int c = 0; c < 5; c++) {
            Check.due("a chain, " + c, 4 - c, chain.fills(c));
        }
    }

    private static void filledHowMany() {
        Doc.says("Terms", "how many; which WORK a CHILD does; NONE.");
        Check.due("no works", 0, Check.town("a5;").now(3));
        Check.due("no works, fills(0)", -9, Check.town("a5;").fills(0));
        RoomBorn x = Check.town("m2;a5;w0 4;");
        Check.due("nobody is born", 0, x.now(3));
        Check.due("nobody is born, fills(1)", -9, x.fills(1));
        x.bears(1, 0);
        Check.due("nobody can do it", 0, x.now(3));
        Check.due("nobody can do it, fills(1)", -9, x.fills(1));
        RoomBorn y = Check.town("m1;a5;w6 9;w0 5;");
        y.bears(0, 0);
        Check.due("one", 1, y.now(3));
        Check.due("which", 1, y.fills(0));
    }

    private static void carry() {
        Doc.says("Terms", "CARRY for a MOTHER whose CHILD is not BORN: the ROOM by which, were it BORN there NOW, most WORKS can be FILLED, of several the lowest; how many;");
        RoomBorn x = Check.town("m6;l60;a50;a5;a20;a70;a21;w20 30;w20 22;w0 55;");
        asked("all alike: the lowest", x, 5, 0, 1);
        x.bears(0, 1);
        asked("one can be more", x, 5, 2, 2);
        x.bears(1, 2);
        asked("one more yet, the lowest of two", x, 5, 2, 3);
        x.bears(2, 4);
        asked("none can be more: the lowest", x, 5, 0, 3);
        asked("for another mother, too", x, 3, 0, 3);
        Check.due("who is BORN", -2, x.carry(2, 0));
        RoomBorn last = Check.town("m1;l50;a60;a60;a50;a49;w0 99;");
        asked("the last room alone", last, 0, 3, 1);
        last.joins(0, 2);
        asked("joined with an older one", last, 0, 3, 1);
        last.joins(1, 3);
        asked("of AGE 54 where it is", last, 0, 0, 0);
        last.builds(0);
        asked("a room built anew", last, 0, 0, 1);
        RoomBorn six = Check.town("a1;a2;a3;a4;a5;a6;w6 9;");
        asked("the sixth room", six, 2, 5, 1);
        RoomBorn older = Check.town("m2;l60;a10;a20;w10 10;w10 20;");
        older.bears(0, 0);
        asked("by the others' ways, too", older, 1, 0, 2);
        older.year();
        older.undo();
        older.builds(0);
        asked("NOW, not as it was", older, 1, 1, 2);
    }

    private static void asked(String what, RoomBorn x, int m, int room, int many) {
        Check.due(what + ": the ROOM", room, x.carry(m, 0));
        Check.due(what + ": how many", many, x.carry(m, 1));
    }

    private static void carryNowhere() {
        Doc.says("Terms", "NONE (no ROOMS).");
        asked("a new object", new RoomBorn(), 2, -9, -9);
        asked("works, no rooms", Check.town("w0 99;m6;"), 5, -9, -9);
        asked("a room, no works", Check.town("a5;"), 0, 0, 0);
        asked("a room where it can do none", Check.town("a5;w6 9;"), 0, 0, 0);
        asked("rooms where it does not live", Check.town("a80;a90;w0 99;"), 0, 0, 0);
    }

    private static void lasts() {
        Doc.says("Terms", "LASTS of a WORK: in how many YEARS (0 .. 60), if just these go by (past YEAR 99, too), there is nobody first who can do it; NONE.");
        for (int high = 0; high <= 99; high++) {
            RoomBorn x = Check.town("l99;m1;a0;w0 " + high + ";");
            x.bears(0, 0);
            Check.due("to HIGH " + high, high <= 59 ? high + 1 : -9, x.work(0, 3));
        }
        for (int life = 10; life <= 99; life++) {
            RoomBorn x = Check.town("m1;a0;w0 99;l" + life + ";");
            x.bears(0, 0);
            Check.due("to LIFE " + life, life <= 60 ? life : -9, x.work(0, 3));
        }
        RoomBorn x = Check.town("m3;l90;a5;a8;a9;w5 9;w6 19;w10 12;");
        Check.due("nobody is born", 0, x.work(0, 3));
        x.bears(0, 0);
        Check.due("just he", 5, x.work(0, 3));
        Check.due("nobody yet, though later", 0, x.work(1, 3));
        x.bears(1, 1);
        Check.due("the longer of two", 5, x.work(0, 3));
        Check.due("one behind the other", 15, x.work(1, 3));
        x.bears(2, 2);
        x.year();
        Check.due("a year later", 4, x.work(0, 3));
        Check.due("each of three behind another", 7, x.work(2, 3));
        RoomBorn gap = Check.town("m2;a12;a0;w10 12;");
        gap.bears(0, 0);
        gap.bears(1, 1);
        Check.due("somebody again behind the gap", 1, gap.work(0, 3));
        RoomBorn late = Check.town("m1;l99;a0;w0 59;w0 60;");
        for (int i = 0; i < 99; i++) {
            late.year();
        }
        late.builds(0);
        late.bears(0, 0);
        Check.due("past YEAR 99", 60, late.work(0, 3));
        Check.due("past YEAR 99, NONE", -9, late.work(1, 3));
        Check.due("no YEAR goes by", 99, late.now(0));
    }

    private static void join() {
        Doc.says("Terms", "JOIN for an age a (0 .. 198): of all sets of ROOMS (not empty, whatever is JOINED) that, JOINED, were of AGE a, that of fewest, of several the least bits; NONE.");
        Check.due("not empty: no rooms", -9, new RoomBorn().join(0));
        Check.due("not empty: a room", -9, Check.town("a5;").join(0));
        Check.due("one of 0", 1, Check.town("a0;").join(0));
        Check.due("two by cut", 3, Check.town("a3;a0;").join(1));
        Check.due("below the cut", -9, Check.town("a3;a0;").join(2));
        RoomBorn x = Check.town("a10;a20;a30;a20;a0;a40;");
        Check.due("one is fewer than two", 2, x.join(20));
        Check.due("least bits of two", 3, x.join(15));
        Check.due("least bits of two, not of the first room", 6, x.join(25));
        Check.due("two alone", 36, x.join(35));
        Check.due("least bits of three", 21, x.join(13));
        Check.due("two, though three have less bits", 24, Check.town("a6;a6;a12;a7;a9;").join(8));
        Check.due("one, though two have less bits", 4, Check.town("a6;a10;a8;").join(8));
        Check.due("all six", 63, Check.town("a0;a0;a99;a0;a0;a0;").join(16));
        Check.due("five of six", 31, Check.town("a0;a0;a99;a0;a0;a0;").join(19));
        String ahead = joins(x);
        x.joins(0, 1);
        x.joins(2, 4);
        x.joins(1, 5);
        Check.yes("whatever is JOINED", ahead.equals(joins(x)));
        Check.due("198 of none so old", -9, x.join(198));
        Check.due("199", -1, x.join(199));
        Check.due("-1", -1, x.join(-1));
        RoomBorn old = Check.town("a98;a99;");
        for (int i = 0; i < 99; i++) {
            old.year();
        }
        Check.due("198", 2, old.join(198));
        Check.due("197", 1, old.join(197));
        Check.due("196", -9, old.join(196));
        old.builds(0);
        Check.due("99 of 198 and 0", 3, old.join(99));
        Check.due("0", 1, old.join(0));
    }

    private static String joins(RoomBorn x) {
        StringBuilder all = new StringBuilder();
        for (int a = 0; a <= 50; a++) {
            all.append(x.join(a)).append(' ');
        }
        return all.toString();
    }

    private static void elder() {
        Doc.says("Terms", "ELDER: those who LIVE, the oldest first, of like ones by numbers: the k-th; NONE.");
        RoomBorn x = Check.town("m6;l50;a20;a40;a50;a0;");
        elders(x, -9, -9, -9, -9, -9, -9);
        x.bears(3, 0);
        elders(x, 3, -9, -9, -9, -9, -9);
        x.bears(5, 1);
        elders(x, 5, 3, -9, -9, -9, -9);
        x.bears(1, 0);
        elders(x, 5, 1, 3, -9, -9, -9);
        x.bears(2, 2);
        elders(x, 5, 1, 3, -9, -9, -9);
        x.bears(0, 1);
        elders(x, 0, 5, 1, 3, -9, -9);
        x.bears(4, 3);
        elders(x, 0, 5, 1, 3, 4, -9);
        for (int i = 0; i < 10; i++) {
            x.year();
        }
        elders(x, 1, 3, 4, -9, -9, -9);
        RoomBorn six = Check.town("m6;a0;");
        for (int m = 5; m >= 0; m--) {
            six.bears(m, 0);
        }
        elders(six, 0, 1, 2, 3, 4, 5);
        elders(Check.town("m1;"), -9, -9, -9, -9, -9, -9);
    }

    private static void elders(RoomBorn x, int... due) {
        for (int k = 0; k < 6; k++) {
            Check.due("elder(" + k + ") of " + x.now(1), due[k], x.elder(k));
        }
    }

    private static void seen() {
        Doc.says("Terms", "SEEN (6 at most): that an unknown one can do a WORK (1), or not (0).");
        RoomBorn x = Check.town("w0 99;w10 20;w20 30;");
        for (int i = 1; i <= 6; i++) {
            Check.due("the " + i + ".", i, x.sees(0, 1));
            Check.due("count(4)", i, x.count(4));
        }
        Check.due("the 7th", -3, x.sees(1, 1));
        Check.due("the 7th, not", -3, x.sees(1, 0));
        Check.due("count(4)", 6, x.count(4));
        Check.due("it is not SEEN", 100, x.ages(0));
        x.forget();
        x.sees(1, 1);
        Check.due("can", 11, x.ages(0));
        x.forget();
        x.sees(1, 0);
        Check.due("can't", 89, x.ages(0));
        RoomBorn five = Check.town("w0 50;w0 40;w0 30;w0 20;w0 10;");
        for (int w = 0; w < 4; w++) {
            five.sees(w, 1);
        }
        five.sees(0, 1);
        Check.due("the first five", 21, five.ages(0));
        five.sees(4, 0);
        Check.due("the sixth counts, too", 10, five.ages(0));
    }

    private static void ages() {
        Doc.says("Terms", "AGES (0 .. 99) of which he can be by all that was SEEN: how many; the least; the greatest; NONE.");
        RoomBorn x = Check.town("l10;w0 99;w0 0;w99 99;w1 98;w40 60;");
        ages(x, 100, 0, 99);
        x.sees(0, 1);
        ages(x, 100, 0, 99);
        x.sees(1, 0);
        ages(x, 99, 1, 99);
        x.sees(2, 0);
        ages(x, 98, 1, 98);
        x.sees(4, 0);
        ages(x, 77, 1, 98);
        x.sees(3, 0);
        ages(x, 0, -9, -9);
        x.forget();
        x.sees(1, 1);
        ages(x, 1, 0, 0);
        x.sees(2, 1);
        ages(x, 0, -9, -9);
        x.forget();
        x.sees(2, 1);
        ages(x, 1, 99, 99);
        x.forget();
        x.sees(0, 0);
        ages(x, 0, -9, -9);
        x.forget();
        x.sees(3, 0);
        ages(x, 2, 0, 99);
        x.forget();
        x.sees(4, 1);
        ages(x, 21, 40, 60);
        x.sees(4, 0);
        ages(x, 0, -9, -9);
        ages(new RoomBorn(), 100, 0, 99);
    }

    private static void ages(RoomBorn x, int many, int least, int greatest) {
        Check.due("how many of " + x.count(4), many, x.ages(0));
        Check.due("the least of " + x.count(4), least, x.ages(1));
        Check.due("the greatest of " + x.count(4), greatest, x.ages(2));
    }

    private static void tries() {
        Doc.says("Terms", "TRY: the WORK by which, done or not, the greater part of these is smallest, of several the lowest;");
        Check.due("49 of 100 done", 0, Check.town("w0 48;w0 47;").next());
        Check.due("half of them", 2, Check.town("w0 48;w0 50;w0 49;").next());
        Check.due("as great by not done", 0, Check.town("w0 39;w0 59;").next());
        Check.due("as great by done", 0, Check.town("w0 59;w0 39;").next());
        Check.due("the greater part is of those not done", 1, Check.town("w0 9;w0 79;").next());
        Check.due("the greater part is of those done", 1, Check.town("w0 89;w0 19;").next());
        Check.due("one alone", 0, Check.town("w0 99;").next());
        Check.due("the fifth", 4, Check.town("w0 9;w0 8;w0 7;w0 6;w0 10;").next());
        Check.due("the age 0 counts", 1, Check.town("w1 49;w0 49;").next());
        Check.due("the age 99 counts", 1, Check.town("w50 98;w50 99;").next());
        RoomBorn x = Check.town("w0 49;w0 69;w0 24;");
        Check.due("of all", 0, x.next());
        x.sees(0, 1);
        Check.due("of these alone", 2, x.next());
        x.sees(2, 1);
        Check.due("none parts them: the lowest", 0, x.next());
        x.forget();
        x.sees(0, 0);
        Check.due("of those who can't", 1, x.next());
    }

    private static void triesNone() {
        Doc.says("Terms", "NONE (one AGE can be at most, there are no WORKS).");
        Check.due("no WORKS", -9, new RoomBorn().next());
        Check.due("no WORKS, rooms", -9, Check.town("a5;").next());
        RoomBorn x = Check.town("w5 6;w5 5;w9 9;");
        x.sees(0, 1);
        Check.due("two AGES", 1, x.next());
        x.sees(1, 1);
        Check.due("one AGE", -9, x.next());
        x.sees(2, 1);
        Check.due("no AGE", -9, x.next());
        x.forget();
        Check.due("all AGES", 0, x.next());
    }

    private static void odds() {
        Doc.says("Terms", "ODDS for a WORK: each CHILD that is not BORN comes NOW, each in any ROOM as likely, each for itself: that one at least of these can do it: a fraction");
        String[] rooms = {"a5;", "a5;a6;", "a5;a6;a7;", "a5;a6;a7;a8;", "a5;a6;a7;a8;a9;", "a5;a6;a7;a8;a9;a3;"};
        int[] upper = {1, 63, 665, 3367, 11529, 31031};
        int[] lower = {1, 64, 729, 4096, 15625, 46656};
        for (int i = 0; i < 6; i++) {
            fraction("one room of " + (i + 1), Check.town("m6;w5 5;" + rooms[i]), 0, upper[i], lower[i]);
            fraction("all rooms of " + (i + 1), Check.town("m6;w0 9;" + rooms[i]), 0, 1, 1);
            fraction("no room of " + (i + 1), Check.town("m6;w0 0;" + rooms[i]), 0, 0, 1);
        }
        RoomBorn x = Check.town("m3;l60;a10;a20;a60;a30;w10 20;w60 99;w0 99;");
        fraction("in least terms", x, 0, 7, 8);
        fraction("who does not live", x, 1, 0, 1);
        fraction("who lives", x, 2, 63, 64);
        x.bears(0, 0);
        fraction("of these alone: one is born", x, 0, 3, 4);
        x.bears(1, 2);
        fraction("of these alone: one came dead", x, 0, 1, 2);
        x.year();
        fraction("NOW", x, 0, 1, 4);
        x.joins(1, 0);
        fraction("by AGE", x, 0, 1, 2);
        x.bears(2, 1);
        fraction("none is left", x, 0, 0, 1);
        fraction("none is left, who was likely", x, 2, 0, 1);
    }

    private static void oddsWithoutRooms() {
        Doc.says("Terms", "(0 by 1, if there are no ROOMS).");
        fraction("no rooms", Check.town("w0 99;"), 0, 0, 1);
        fraction("no rooms, one mother", Check.town("w0 99;w5 5;m1;"), 1, 0, 1);
        fraction("a room", Check.town("w0 99;a5;"), 0, 1, 1);
    }

    private static void fraction(String what, RoomBorn x, int w, int upper, int lower) {
        Check.due(what + ": upper", upper, x.odds(w, 0));
        Check.due(what + ": lower", lower, x.odds(w, 1));
    }
}
