import java.util.Arrays;

/** What stands under each promise's own head. */
final class HeadSentences {
    private static final String TOWN = "m5;l40;a10;a0;a35;a60;w5 20;w0 99;w30 40;";
    private static final int ROOMS = 4;
    private static final int MOTHERS = 5;
    private static final int WORKS = 3;

    private HeadSentences() {
    }

    static void all() {
        newObject();
        type();
        typeRefused();
        clear();
        town();
        townFault();
        room();
        child();
        work();
        now();
        bears();
        year();
        joins();
        builds();
        undo();
        fills();
        carry();
        join();
        elder();
        odds();
        sees();
        forget();
        ages();
        next();
        rate();
        keep();
        back();
        count();
        trace();
    }

    private static void newObject() {
        Doc.says("Promise 1", "As told; no ROOMS, no WORKS.");
        RoomBorn x = new RoomBorn();
        Check.yes("as an empty text tells", Look.all(x).equals(Look.all(Check.town(""))));
        int[] counts = {0, 3, 0, 70, 0, 0};
        for (int what = 0; what < 6; what++) {
            Check.due("count(" + what + ")", counts[what], x.count(what));
        }
        Check.due("no IMAGE 0", -2, x.back(0));
        Check.due("no IMAGE 1", -2, x.back(1));
        Check.due("nothing to undo", -2, x.undo());
        Check.due("THE TRACE", 0, x.trace());
        RoomBorn other = Check.town(TOWN);
        other.keep(0);
        other.rate(0, 0);
        Check.due("no two have to do with one another", 0, x.count(0) + x.trace());
    }

    private static void type() {
        Doc.says("Promise 2", "A letter (0 .. 255) comes to THE TEXT: how many it has.");
        for (int from : new int[] {0, 120, 240}) {
            RoomBorn x = new RoomBorn();
            for (int letter = from; letter < Math.min(from + 120, 256); letter++) {
                Check.due("type(" + letter + ")", letter - from + 1, x.type(letter));
                Check.due("count(5)", letter - from + 1, x.count(5));
            }
        }
        RoomBorn x = Check.town("a5;");
        Check.due("behind town()", 1, x.type('a'));
    }

    private static void typeRefused() {
        Doc.says("Promise 2", "BAD; FULL.");
        RoomBorn x = new RoomBorn();
        Check.bad("type", -1, 256, x::type);
        Check.due("none came", 0, x.count(5));
        for (int i = 1; i <= 120; i++) {
            Check.due("letter " + i, i, x.type(255));
        }
        Check.due("the 121st, 0", -3, x.type(0));
        Check.due("the 121st, 255", -3, x.type(255));
        Check.bad("type, full", -1, 256, x::type);
        Check.due("none came", 120, x.count(5));
    }

    private static void clear() {
        Doc.says("Promise 3", "THE TEXT is empty: how many letters it had.");
        RoomBorn x = Check.town("a5;");
        Check.due("of none", 0, x.clear());
        x.type('x');
        Check.due("of one", 1, x.clear());
        Check.due("it is empty", 0, x.count(5));
        Check.due("of none again", 0, x.clear());
        for (int i = 0; i < 120; i++) {
            x.type('x');
        }
        Check.due("of 120", 120, x.clear());
        Check.type(x, "a7;");
        Check.due("what was there is not read", 1, x.town());
        Check.due("it told", 7, x.room(0, 0));
    }

    private static void town() {
        Doc.says("Promise 4", "THE TEXT tells all anew, and is empty then: how many ITEMS.");
        RoomBorn x = Check.town("a5;a6;");
        Check.type(x, "w1 2;a7;");
        Check.due("two", 2, x.town());
        Check.due("it is empty", 0, x.count(5));
        Check.due("anew: a ROOM", 7, x.room(0, 0));
        Check.due("anew: one alone", 1, x.count(0));
        Check.due("none", 0, x.town());
        Check.due("anew: no ROOM", 0, x.count(0));
        Check.due("one", 1, Check.told("m1;"));
        Check.due("13, the most", 13, Check.told("a1;a1;a1;a1;a1;a1;w1 1;w1 1;w1 1;w1 1;w1 1;m1;l10;"));
    }

    private static void townFault() {
        Doc.says("Promise 4", "-10 less FAULT: nothing changes (THE TEXT stays, too).");
        Check.due("the first place", -10, Check.told("x"));
        Check.due("the last place", -129, Check.told(" ".repeat(119) + "x"));
        Check.due("the text's length", -130, Check.told(" ".repeat(119) + "a"));
        for (String text : new String[] {"x", "a1;w1 2;m5;l20;q", "m1;m1;", "a5", "l9;", "a1;a1;a1;a1;a1;a1;a1;"}) {
            Look.unchanged("town() of " + text, () -> done(text), RoomBorn::town);
            RoomBorn x = done(text);
            int fault = x.town();
            Check.yes("a fault: " + fault, fault <= -10);
            Check.due("again", fault, x.town());
            Check.due("THE TEXT stays", text.length(), x.clear());
        }
        RoomBorn x = done("a1;w1 2;m5;l20;q");
        x.town();
        x.clear();
        Check.due("nothing of it comes later", 0, x.town());
        Check.due("no ROOMS", 0, x.count(0));
        Check.due("MOTHERS", 3, x.count(1));
        Check.due("LIFE", 70, x.count(3));
        Check.type(x, "a1;a2;w1 2;w2 3;m5;l20;");
        for (int i = 0; i < 4; i++) {
            x.type('q');
            Check.due("a fault once more", -33, x.town());
        }
        x.clear();
        Check.type(x, "a3;w4 5;");
        Check.due("no ITEM of the faults counts", 2, x.town());
        Check.yes("nothing of the faults is told", told(x).equals(told(Check.town("a3;w4 5;"))));
    }

    private static String told(RoomBorn x) {
        StringBuilder all = new StringBuilder();
        for (int what = 0; what < 6; what++) {
            all.append(x.count(what)).append(' ').append(x.work(0, what)).append(' ').append(x.room(0, what)).append(' ');
        }
        return all.toString();
    }

    private static RoomBorn done(String typed) {
        RoomBorn x = Check.town(TOWN);
        x.bears(0, 0);
        x.keep(1);
        x.joins(0, 2);
        x.year();
        x.keep(0);
        x.sees(0, 1);
        x.rate(1, 0);
        Check.type(x, typed);
        return x;
    }

    private static void room() {
        Doc.says("Promise 5", "Of a ROOM: 0 how OLD, 1 AGE, 2 all that are JOINED with it (bits; itself, too).");
        RoomBorn x = Check.town(TOWN);
        x.joins(3, 0);
        int[][] due = {{10, 35, 9}, {0, 0, 2}, {35, 35, 4}, {60, 35, 9}};
        for (int r = 0; r < ROOMS; r++) {
            for (int what = 0; what < 3; what++) {
                Check.due("room(" + r + ", " + what + ")", due[r][what], x.room(r, what));
            }
        }
        Doc.says("Promise 5", "BAD.");
        Check.bad("room", -1, ROOMS, 3, x::room);
        Check.bad("room of none", -1, 0, 3, new RoomBorn()::room);
    }

    private static void child() {
        Doc.says("Promise 6", "Of a CHILD: 0 whether BORN (1, 0), 1 whether it LIVES (1, 0), 2 its age (NONE: it does not LIVE), 3 WORKS that it can do (bits).");
        RoomBorn x = Check.town(TOWN);
        x.bears(0, 0);
        x.bears(1, 3);
        x.bears(2, 1);
        x.bears(3, 2);
        int[][] due = {{1, 1, 10, 3}, {1, 0, -9, 0}, {1, 1, 0, 2}, {1, 1, 35, 6}, {0, 0, -9, 0}};
        for (int c = 0; c < MOTHERS; c++) {
            for (int what = 0; what < 4; what++) {
                Check.due("child(" + c + ", " + what + ")", due[c][what], x.child(c, what));
            }
        }
        for (int i = 0; i < 5; i++) {
            x.year();
        }
        int[] died = {1, 0, -9, 0};
        for (int what = 0; what < 4; what++) {
            Check.due("child(3, " + what + "), who died", died[what], x.child(3, what));
        }
        Check.due("all WORKS", 31, five().child(0, 3));
        Doc.says("Promise 6", "BAD.");
        Check.bad("child", -1, MOTHERS, 4, x::child);
        Check.bad("child of one", -1, 1, 4, Check.town("m1;")::child);
    }

    private static RoomBorn five() {
        RoomBorn x = Check.town("m6;a5;w5 5;w5 5;w5 5;w5 5;w5 5;");
        for (int m = 0; m < 6; m++) {
            x.bears(m, 0);
        }
        return x;
    }

    private static void work() {
        Doc.says("Promise 7", "Of a WORK: 0 LOW, 1 HIGH, 2 who can do it (bits), 3 LASTS (NONE).");
        RoomBorn x = Check.town(TOWN);
        x.bears(0, 0);
        x.bears(1, 3);
        x.bears(4, 1);
        int[][] due = {{5, 20, 1, 21}, {0, 99, 17, 40}, {30, 40, 0, 0}};
        for (int w = 0; w < WORKS; w++) {
            for (int what = 0; what < 4; what++) {
                Check.due("work(" + w + ", " + what + ")", due[w][what], x.work(w, what));
            }
        }
        Check.due("who can, all six", 63, five().work(4, 2));
        RoomBorn none = Check.town("l99;a0;w0 60;");
        none.bears(2, 0);
        Check.due("LASTS, NONE", -9, none.work(0, 3));
        Doc.says("Promise 7", "BAD.");
        Check.bad("work", -1, WORKS, 4, x::work);
        Check.bad("work of none", -1, 0, 4, new RoomBorn()::work);
    }

    private static void now() {
        Doc.says("Promise 8", "0 YEAR, 1 who LIVES (bits), 2 who is BORN (bits), 3 how many WORKS are FILLED, 4 how many may be UNDONE.");
        RoomBorn x = Check.town(TOWN);
        nows(x, 0, 0, 0, 0, 0);
        x.bears(4, 0);
        nows(x, 0, 16, 16, 1, 1);
        x.bears(1, 3);
        nows(x, 0, 16, 18, 1, 2);
        x.bears(0, 2);
        nows(x, 0, 17, 19, 2, 3);
        for (int i = 1; i <= 5; i++) {
            x.year();
        }
        nows(x, 5, 16, 19, 1, 8);
        nows(five(), 0, 63, 63, 5, 6);
        Doc.says("Promise 8", "BAD.");
        Check.bad("now", -1, 5, x::now);
    }

    private static void nows(RoomBorn x, int... due) {
        for (int what = 0; what < 5; what++) {
            Check.due("now(" + what + ") of " + Arrays.toString(due), due[what], x.now(what));
        }
    }

    private static void bears() {
        Doc.says("Promise 9", "BORN: its age (where it does not LIVE, too).");
        RoomBorn x = Check.town(TOWN);
        Check.due("0", 0, x.bears(0, 1));
        Check.due("35", 35, x.bears(1, 2));
        Check.due("60, it does not LIVE", 60, x.bears(2, 3));
        Check.due("who LIVES", 3, x.now(1));
        x.joins(0, 3);
        Check.due("AGE", 35, x.bears(4, 3));
        RoomBorn old = Check.town("a99;");
        for (int i = 0; i < 99; i++) {
            old.year();
        }
        Check.due("198", 198, old.bears(0, 0));
        Doc.says("Promise 9", "BAD; STATE: it is.");
        Check.bad("bears", -1, MOTHERS, ROOMS, x::bears);
        Check.due("none was BORN by these", 23, x.now(2));
        Check.due("it is", -2, x.bears(0, 0));
        Check.due("it is, and does not LIVE", -2, x.bears(2, 0));
        Check.due("it is not", 0, x.bears(3, 1));
        Check.due("it is then", -2, x.bears(3, 1));
    }

    private static void year() {
        Doc.says("Promise 10", "A YEAR: how many DIE.");
        RoomBorn x = Check.town("m6;l10;a9;a8;a0;");
        x.bears(0, 0);
        x.bears(1, 0);
        x.bears(2, 1);
        x.bears(3, 2);
        int[] due = {2, 1, 0, 0, 0, 0, 0, 0, 0, 1, 0};
        for (int i = 0; i < due.length; i++) {
            Check.due("year() " + i, due[i], x.year());
        }
        Check.due("none LIVES", 0, x.now(1));
        Doc.says("Promise 10", "STATE: it is 99.");
        for (int year = x.now(0); year < 98; year++) {
            x.year();
        }
        Check.due("it is 98", 0, x.year());
        Check.due("it is 99", -2, x.year());
        Check.due("it stays 99", 99, x.now(0));
        x.undo();
        Check.due("it is 98 again", 0, x.year());
    }

    private static void joins() {
        Doc.says("Promise 11", "JOINED: AGE of both then.");
        RoomBorn x = Check.town("a1;a2;a4;a8;a16;a33;");
        Check.due("cut", 1, x.joins(1, 0));
        Check.due("of three", 2, x.joins(2, 0));
        Check.due("of two others", 24, x.joins(4, 5));
        Check.due("of five", 11, x.joins(5, 2));
        Check.due("of the one", 11, x.room(0, 1));
        Check.due("of the other", 11, x.room(5, 1));
        Doc.says("Promise 11", "BAD (alike, too); STATE: they are.");
        Check.bad("joins", -1, 6, 6, x::joins);
        for (int r = 0; r < 6; r++) {
            Check.due("alike, " + r, -1, x.joins(r, r));
        }
        Check.due("they are", -2, x.joins(4, 5));
        Check.due("they are, the other way", -2, x.joins(5, 4));
        Check.due("they are, by others", -2, x.joins(0, 4));
        Check.due("they are not", 10, x.joins(3, 0));
        x.builds(5);
        Check.due("they are no more", 5, x.joins(5, 4));
        Check.due("there is one alone", -1, Check.town("a5;").joins(0, 1));
    }

    private static void builds() {
        Doc.says("Promise 12", "BUILT: how OLD it was.");
        RoomBorn x = Check.town("a5;a0;a99;a7;");
        Check.due("5", 5, x.builds(0));
        Check.due("99", 99, x.builds(2));
        x.joins(0, 3);
        Check.due("how OLD, not AGE", 7, x.builds(3));
        x.year();
        Check.due("a year", 1, x.builds(3));
        Doc.says("Promise 12", "BAD; STATE: 0 years OLD, not JOINED with others.");
        Check.bad("builds", -1, 4, x::builds);
        Check.due("0 years OLD, not JOINED", -2, x.builds(3));
        Check.due("0 years OLD as told", -2, Check.town("a0;").builds(0));
        Check.due("1 year OLD, not JOINED", 1, x.builds(1));
        x.joins(1, 3);
        Check.due("0 years OLD, JOINED", 0, x.builds(1));
        Check.due("0 years OLD, the other not JOINED by it", -2, x.builds(3));
        Check.due("none", -1, new RoomBorn().builds(0));
    }

    private static void undo() {
        Doc.says("Promise 13", "UNDONE: how many more may be.");
        RoomBorn x = Check.town(TOWN);
        for (int i = 0; i < 12; i++) {
            x.year();
        }
        for (int more = 9; more >= 0; more--) {
            Check.due("undo()", more, x.undo());
            Check.due("now(4)", more, x.now(4));
        }
        Doc.says("Promise 13", "STATE: none.");
        Check.due("none more", -2, x.undo());
        Check.due("YEAR", 2, x.now(0));
        x.bears(0, 0);
        Check.due("one", 0, x.undo());
        Check.due("none", -2, x.undo());
        Check.due("a new object", -2, new RoomBorn().undo());
    }

    private static void fills() {
        Doc.says("Promise 14", "Which WORK a CHILD does, if as many as can be are FILLED; NONE.");
        RoomBorn x = five();
        for (int c = 0; c < 5; c++) {
            Check.due("fills(" + c + ")", c, x.fills(c));
        }
        Check.due("none is left", -9, x.fills(5));
        Check.due("not BORN", -9, Check.town(TOWN).fills(4));
        Doc.says("Promise 14", "BAD.");
        Check.bad("fills", -1, 6, x::fills);
        Check.bad("fills of one", -1, 1, Check.town("m1;a5;w0 9;")::fills);
    }

    private static void carry() {
        Doc.says("Promise 15", "CARRY: the ROOM (what = 0), how many WORKS (1); NONE.");
        RoomBorn x = Check.town("m5;l40;a50;a0;a35;a60;w5 20;w0 19;w30 40;");
        Check.due("the ROOM", 1, x.carry(0, 0));
        Check.due("how many", 1, x.carry(0, 1));
        x.bears(1, 1);
        Check.due("the ROOM", 2, x.carry(0, 0));
        Check.due("how many", 2, x.carry(0, 1));
        RoomBorn none = Check.town("w0 9;");
        Check.due("NONE", -9, none.carry(0, 0));
        Check.due("NONE", -9, none.carry(0, 1));
        Doc.says("Promise 15", "BAD; STATE: it is BORN.");
        Check.bad("carry", -1, MOTHERS, 2, x::carry);
        Check.bad("carry, no rooms", -1, 3, 2, none::carry);
        Check.due("it is BORN", -2, x.carry(1, 0));
        Check.due("it is BORN", -2, x.carry(1, 1));
        x.bears(2, 3);
        Check.due("it is BORN, and does not LIVE", -2, x.carry(2, 0));
        x.undo();
        Check.due("it is BORN no more", 2, x.carry(2, 0));
    }

    private static void join() {
        Doc.says("Promise 16", "JOIN, as bits; NONE.");
        RoomBorn x = Check.town("a1;a2;a4;a8;a16;a32;");
        for (int r = 0; r < 6; r++) {
            Check.due("join(" + (1 << r) + ")", 1 << r, x.join(1 << r));
        }
        Check.due("of two", 24, x.join(12));
        Check.due("of three", 35, x.join(11));
        Check.due("of all", 6, x.join(3));
        Check.due("NONE", -9, x.join(33));
        Check.due("NONE, 198", -9, x.join(198));
        Doc.says("Promise 16", "BAD.");
        Check.bad("join", -1, 199, x::join);
        Check.bad("join, no rooms", -1, 199, new RoomBorn()::join);
    }

    private static void elder() {
        Doc.says("Promise 17", "ELDER: the k-th (0 the oldest); NONE.");
        RoomBorn x = Check.town("m3;a5;a9;");
        x.bears(0, 0);
        x.bears(2, 1);
        Check.due("the oldest", 2, x.elder(0));
        Check.due("the next", 0, x.elder(1));
        for (int k = 2; k <= 5; k++) {
            Check.due("NONE, " + k, -9, x.elder(k));
        }
        Check.due("the sixth", 5, five().elder(5));
        Doc.says("Promise 17", "BAD (0 .. 5).");
        Check.bad("elder", -1, 6, x::elder);
        Check.bad("elder of one", -1, 6, Check.town("m1;")::elder);
        Check.bad("elder of six", -1, 6, five()::elder);
    }

    private static void odds() {
        Doc.says("Promise 18", "ODDS: upper (what = 0), lower number (1), in least terms.");
        RoomBorn x = Check.town("m2;a1;a2;a3;a4;a5;a6;w1 1;w1 2;w1 3;w1 6;w7 7;");
        int[][] due = {{11, 36}, {5, 9}, {3, 4}, {1, 1}, {0, 1}};
        for (int w = 0; w < 5; w++) {
            Check.due("upper " + w, due[w][0], x.odds(w, 0));
            Check.due("lower " + w, due[w][1], x.odds(w, 1));
        }
        Doc.says("Promise 18", "BAD.");
        Check.bad("odds", -1, 5, 2, x::odds);
        Check.bad("odds, no works", -1, 0, 2, Check.town("a5;")::odds);
        Check.bad("odds, no rooms", -1, 1, 2, Check.town("w0 9;")::odds);
    }

    private static void sees() {
        Doc.says("Promise 19", "SEEN: how much there is.");
        RoomBorn x = Check.town(TOWN);
        for (int i = 1; i <= 6; i++) {
            Check.due("sees() " + i, i, x.sees(i % 3, i % 2));
        }
        Doc.says("Promise 19", "BAD; FULL.");
        Check.bad("sees, full", -1, WORKS, 2, x::sees);
        Check.due("FULL", -3, x.sees(2, 1));
        x.forget();
        Check.bad("sees", -1, WORKS, 2, x::sees);
        Check.due("none of these", 0, x.count(4));
        Check.bad("sees, no works", -1, 0, 2, new RoomBorn()::sees);
    }

    private static void forget() {
        Doc.says("Promise 20", "Nothing is SEEN: how much was.");
        RoomBorn x = Check.town(TOWN);
        for (int many = 0; many <= 6; many++) {
            for (int i = 0; i < many; i++) {
                x.sees(0, 1);
            }
            Check.due("of " + many, many, x.forget());
            Check.due("count(4)", 0, x.count(4));
            Check.due("ages(0)", 100, x.ages(0));
        }
        Check.due("of none", 0, x.forget());
    }

    private static void ages() {
        Doc.says("Promise 21", "AGES: how many (what = 0), the least (1), the greatest (2); NONE (what 1, 2).");
        RoomBorn x = Check.town(TOWN);
        x.sees(0, 1);
        int[] due = {16, 5, 20};
        for (int what = 0; what < 3; what++) {
            Check.due("ages(" + what + ")", due[what], x.ages(what));
        }
        x.sees(2, 1);
        int[] none = {0, -9, -9};
        for (int what = 0; what < 3; what++) {
            Check.due("ages(" + what + "), NONE", none[what], x.ages(what));
        }
        Doc.says("Promise 21", "BAD.");
        Check.bad("ages", -1, 3, x::ages);
        Check.bad("ages, no works", -1, 3, new RoomBorn()::ages);
    }

    private static void next() {
        Doc.says("Promise 22", "TRY; NONE.");
        RoomBorn x = Check.town("w0 9;w40 80;w5 5;");
        Check.due("the second", 1, x.next());
        x.sees(0, 1);
        Check.due("the third", 2, x.next());
        x.sees(2, 1);
        Check.due("NONE", -9, x.next());
        Check.due("it changes none", 2, x.count(4));
        Check.due("NONE, no WORKS", -9, new RoomBorn().next());
    }

    private static void rate() {
        Doc.says("Promise 23", "RATE.");
        RoomBorn x = Check.town(TOWN);
        x.bears(4, 0);
        x.year();
        int[] due = {11, 12, 9, 24, 13, 12};
        for (int kind = 0; kind < 6; kind++) {
            Check.due("rate(" + kind + ", 4)", due[kind], x.rate(kind, 4));
        }
        Doc.says("Promise 23", "NO: BAD.");
        long trace = x.trace();
        Check.bad("rate", -1000000, 6, MOTHERS, x::rate);
        Check.due("none of these was asked", trace, x.trace());
        Check.bad("rate of one", -1000000, 6, 1, Check.town("m1;")::rate);
    }

    private static void keep() {
        Doc.says("Promise 24", "An IMAGE is kept: YEAR.");
        RoomBorn x = Check.town(TOWN);
        Check.due("keep(0) in YEAR 0", 0, x.keep(0));
        for (int year = x.now(0); year < 99; year++) {
            x.year();
        }
        Check.due("keep(1) in YEAR 99", 99, x.keep(1));
        Check.due("back(0)", 0, x.back(0));
        Check.due("back(1)", 99, x.back(1));
        Check.due("keep(0) once more", 99, x.keep(0));
        Check.due("back(0)", 99, x.back(0));
        Doc.says("Promise 24", "BAD.");
        RoomBorn y = Check.town(TOWN);
        Check.bad("keep", -1, 2, y::keep);
        Check.due("none was kept, 0", -2, y.back(0));
        Check.due("none was kept, 1", -2, y.back(1));
    }

    private static void back() {
        Doc.says("Promise 25", "All of that becomes as an IMAGE has it: YEAR.");
        RoomBorn x = Check.town(TOWN);
        x.bears(0, 0);
        x.joins(0, 1);
        x.year();
        x.year();
        x.keep(1);
        String kept = Look.deeds(x);
        x.bears(1, 1);
        x.builds(2);
        x.joins(2, 3);
        x.year();
        Check.due("back(1)", 2, x.back(1));
        Check.yes("all of that", kept.equals(Look.deeds(x)));
        Check.due("the very same once more", 2, x.back(1));
        Doc.says("Promise 25", "BAD; STATE: none was kept.");
        x.year();
        Check.bad("back", -1, 2, x::back);
        Check.due("none was kept", -2, x.back(0));
        Check.due("nothing has become otherwise", 3, x.now(0));
        x.keep(0);
        Check.due("one was kept", 3, x.back(0));
        x.town();
        Check.due("none was kept since", -2, x.back(0));
    }

    private static void count() {
        Doc.says("Promise 26", "0 ROOMS, 1 MOTHERS, 2 WORKS, 3 LIFE, 4 SEEN, 5 letters of THE TEXT.");
        RoomBorn x = Check.town(TOWN);
        x.sees(0, 1);
        Check.type(x, "w0 9; w");
        int[] due = {4, 5, 3, 40, 1, 7};
        for (int what = 0; what < 6; what++) {
            Check.due("count(" + what + ")", due[what], x.count(what));
        }
        RoomBorn most = Check.town("a1;a1;a1;a1;a1;a1;w1 1;w1 1;w1 1;w1 1;w1 1;m6;l99;");
        int[] full = {6, 6, 5, 99, 0, 0};
        for (int what = 0; what < 6; what++) {
            Check.due("count(" + what + "), the most", full[what], most.count(what));
        }
        Doc.says("Promise 26", "BAD.");
        Check.bad("count", -1, 6, x::count);
    }

    private static void trace() {
        Doc.says("Promise 27", "THE TRACE.");
        RoomBorn x = Check.town(TOWN);
        Check.due("at first", 0L, x.trace());
        x.rate(4, 0);
        Check.due("behind a CRYPT", 10101L, x.trace());
        x.rate(3, 0);
        Check.due("and a GABLE", 11112L, x.trace());
        Check.due("asked twice", 11112L, x.trace());
    }
}
