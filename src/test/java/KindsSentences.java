/** Part 4 of the terms: KINDS, RATE, THE TRACE, IMAGES, and what is read anew. */
final class KindsSentences {
    private static final long[] ASKED = {1, 11, 101, 1011, 10101, 100001};

    private KindsSentences() {
    }

    static void all() {
        kinds();
        theTrace();
        child();
        attic();
        cellar();
        gable();
        crypt();
        cart();
        images();
        nothingElse();
        readAnew();
        theTraceGoesOn();
    }

    private static void kinds() {
        Doc.says("Terms", "KINDS of CHILDREN are over one another: 0 CHILD; 1 ATTIC, 2 CELLAR, 5 CART (each under CHILD); 3 GABLE (under ATTIC); 4 CRYPT (under CELLAR).");
        for (int kind = 0; kind < 6; kind++) {
            RoomBorn x = Check.town("m2;a5;");
            x.rate(kind, 1);
            Check.due("who is asked by KIND " + kind, ASKED[kind], x.trace());
        }
        RoomBorn x = Check.town("a5;");
        Check.due("there is no KIND 6", -1000000, x.rate(6, 0));
        Check.due("there is no KIND -1", -1000000, x.rate(-1, 0));
    }

    private static void theTrace() {
        Doc.says("Terms", "RATE of one as if of a KIND (numbers in brackets are added to THE TRACE, 0 at first, as often as rate() asks that body: each once; \"up\" is what the KIND above does):");
        Check.due("0 at first", 0, new RoomBorn().trace());
        RoomBorn x = Check.town("m6;a5;w0 9;");
        Check.due("0 at first, told", 0, x.trace());
        long due = 0;
        for (int round = 0; round < 50; round++) {
            for (int kind = 0; kind < 6; kind++) {
                x.rate(kind, kind);
                due += ASKED[kind];
            }
            Check.due("round " + round, due, x.trace());
        }
        Check.due("refused", -1000000, x.rate(0, 6));
        Check.due("the refused one asks none", due, x.trace());
        Look.all(x);
        x.bears(0, 0);
        x.year();
        Check.due("other calls ask none", due, x.trace());
        RoomBorn most = Check.town("a5;");
        for (int i = 0; i < 500; i++) {
            most.rate(5, 0);
        }
        Check.due("of 500", 50000500, most.trace());
    }

    /** In year 3: 0 is of age 13, 1 came dead, 2 died, 3 is not born, 5 is of age 5. */
    private static RoomBorn inYearThree() {
        RoomBorn x = Check.town("m6;l30;a10;a29;a30;a7;w0 99;w13 13;w7 13;w14 20;");
        x.bears(0, 0);
        x.bears(1, 2);
        x.bears(2, 1);
        x.year();
        x.year();
        x.year();
        x.builds(0);
        x.joins(0, 3);
        x.bears(5, 3);
        return x;
    }

    private static void rates(int kind, int living, int dead, int unborn, int five) {
        RoomBorn x = inYearThree();
        Check.due("who LIVES", living, x.rate(kind, 0));
        Check.due("who came dead", dead + (kind == 4 ? 1 : 0), x.rate(kind, 1));
        Check.due("who died", dead + (kind == 4 ? 2 : 0), x.rate(kind, 2));
        Check.due("who is not BORN", unborn, x.rate(kind, 3));
        Check.due("the last who LIVES", five, x.rate(kind, 5));
        Check.due("each asked once", 5 * ASKED[kind], x.trace());
    }

    private static void child() {
        Doc.says("Terms", "CHILD its age (0, if it does not LIVE) (1).");
        rates(0, 13, 0, 0, 5);
        RoomBorn x = Check.town("l99;a0;a98;");
        x.bears(0, 0);
        x.bears(1, 1);
        Check.due("of age 0", 0, x.rate(0, 0));
        Check.due("of age 98", 98, x.rate(0, 1));
        x.year();
        Check.due("of age 1", 1, x.rate(0, 0));
        Check.due("who died", 0, x.rate(0, 1));
    }

    private static void attic() {
        Doc.says("Terms", "ATTIC up, and YEAR (10).");
        rates(1, 16, 3, 3, 8);
        RoomBorn x = Check.town("a0;");
        Check.due("YEAR 0", 0, x.rate(1, 0));
        for (int i = 0; i < 99; i++) {
            x.year();
        }
        Check.due("YEAR 99", 99, x.rate(1, 0));
        x.undo();
        Check.due("YEAR 98", 98, x.rate(1, 0));
    }

    private static void cellar() {
        Doc.says("Terms", "CELLAR up less how many WORKS it can do (100).");
        rates(2, 10, 0, 0, 4);
        RoomBorn x = Check.town("a0;w0 0;w0 1;w0 99;w0 50;w0 9;");
        Check.due("no WORK by one not BORN", 0, x.rate(2, 0));
        x.bears(0, 0);
        Check.due("below 0, by five WORKS", -5, x.rate(2, 0));
        Check.due("no WORKS", 7, aged("a7;").rate(2, 0));
        Check.due("no WORK that it can do", 7, aged("a7;w8 9;").rate(2, 0));
    }

    private static RoomBorn aged(String text) {
        RoomBorn x = Check.town(text);
        x.bears(0, 0);
        return x;
    }

    private static void gable() {
        Doc.says("Terms", "GABLE twice up (1000).");
        rates(3, 32, 6, 6, 16);
        RoomBorn x = aged("l99;a98;");
        Check.due("of age 98, YEAR 0", 196, x.rate(3, 0));
        Check.due("ATTIC is asked once", 1011, x.trace());
    }

    private static void crypt() {
        Doc.says("Terms", "CRYPT up, and its number (10000).");
        rates(4, 10, 0, 3, 9);
        RoomBorn x = Check.town("m6;a0;w0 9;w0 9;");
        for (int c = 0; c < 6; c++) {
            Check.due("not BORN, " + c, c, x.rate(4, c));
            x.bears(c, 0);
            Check.due("of age 0, two WORKS, " + c, c - 2, x.rate(4, c));
        }
    }

    private static void cart() {
        Doc.says("Terms", "CART up, and how many LIVE (100000).");
        rates(5, 15, 2, 2, 7);
        RoomBorn x = Check.town("m6;l10;a9;");
        for (int c = 0; c < 6; c++) {
            Check.due("how many LIVE, " + c, c, x.rate(5, 5));
            x.bears(c, 0);
        }
        Check.due("all six, one of age 9", 15, x.rate(5, 0));
        x.year();
        Check.due("all DIE", 0, x.rate(5, 0));
    }

    private static void images() {
        Doc.says("Terms", "IMAGES 0, 1 keep NOW (YEAR, how OLD ROOMS are, what is JOINED, who is BORN, LIVES, of what age);");
        RoomBorn x = inYearThree();
        String first = Look.deeds(x);
        x.keep(1);
        x.bears(4, 3);
        x.joins(1, 2);
        for (int i = 0; i < 20; i++) {
            x.year();
        }
        x.builds(3);
        String second = Look.deeds(x);
        x.keep(0);
        x.builds(2);
        x.year();
        String third = Look.deeds(x);
        Check.yes("three moments", !first.equals(second) && !second.equals(third));
        Check.due("back(1)", 3, x.back(1));
        Check.yes("all of the first", first.equals(Look.deeds(x)));
        Check.due("back(0)", 23, x.back(0));
        Check.yes("all of the second", second.equals(Look.deeds(x)));
        x.joins(0, 1);
        x.year();
        Check.due("back(1) once more", 3, x.back(1));
        Check.yes("the first, as it was kept", first.equals(Look.deeds(x)));
        x.year();
        Check.due("kept anew", 4, x.keep(1));
        x.undo();
        Check.due("back(1) to the later", 4, x.back(1));
        Check.due("back(0), as it was", 23, x.back(0));
        Check.due("there is no IMAGE 2", -1, x.keep(2));
        Check.due("there is no IMAGE -1", -1, x.keep(-1));
        RoomBorn none = new RoomBorn();
        none.keep(0);
        none.year();
        Check.due("without rooms", 0, none.back(0));
        Check.due("YEAR", 0, none.now(0));
    }

    private static void nothingElse() {
        Doc.says("Terms", "nothing else (nothing can be UNDONE behind back()).");
        RoomBorn x = Check.town("m2;l50;a5;a6;w0 9;");
        x.bears(0, 0);
        x.sees(0, 1);
        x.type('a');
        x.rate(0, 0);
        x.keep(0);
        Check.due("keep() undoes none", 1, x.now(4));
        x.sees(0, 0);
        x.type('5');
        x.rate(1, 0);
        x.year();
        x.year();
        x.back(0);
        Check.due("SEEN", 2, x.count(4));
        Check.due("AGES", 0, x.ages(0));
        Check.due("THE TEXT", 2, x.count(5));
        Check.due("THE TRACE", 12, x.trace());
        Check.due("now(4)", 0, x.now(4));
        Check.due("nothing can be UNDONE", -2, x.undo());
        Check.due("the child stays", 1, x.now(2));
        x.year();
        Check.due("what is done behind it can be", 0, x.undo());
        Check.due("none ahead of it", -2, x.undo());
        Check.due("refused back()", -2, x.back(1));
        x.year();
        x.back(1);
        x.back(2);
        Check.due("a refused back() leaves what can be UNDONE", 1, x.now(4));
    }

    private static void readAnew() {
        Doc.says("Terms", "(Read anew: as told (what is not told as at first), nothing SEEN, IMAGES are gone, nothing can be UNDONE;");
        for (String text : new String[] {"", "a5;", "w3 4;", "m1;", "l10;", "a9;a8;a7;w1 2;w2 3;m6;l99;"}) {
            RoomBorn x = Check.town("m5;l40;a10;a0;a35;a60;w5 20;w0 99;w30 40;");
            for (int i = 0; i < 4; i++) {
                x.bears(i, i);
                x.joins(i, 0);
                x.year();
                x.sees(i, 1);
                x.keep(i);
            }
            Check.type(x, text);
            Check.yes("town() of " + text, x.town() >= 0);
            Check.yes("as a new one of " + text, Look.all(x).equals(Look.all(Check.town(text))));
            Check.due("nothing SEEN", 0, x.count(4));
            Check.due("all AGES", 100, x.ages(0));
            Check.due("nothing can be UNDONE", -2, x.undo());
            Check.due("IMAGE 0 is gone", -2, x.back(0));
            Check.due("IMAGE 1 is gone", -2, x.back(1));
            Check.due("how much may be SEEN again", x.count(2) == 0 ? -1 : 1, x.sees(0, 1));
        }
        againAndAgain();
        RoomBorn y = Check.town("a5;");
        y.keep(0);
        y.year();
        y.type(';');
        Check.due("a fault", -10, y.town());
        Check.due("what is known then", 1, y.now(4));
        Check.due("what is kept then", 0, y.back(0));
    }

    /** Of one object, town after town, fewer and more of each: nothing of an earlier town is left. */
    private static void againAndAgain() {
        String[] texts = {"m6;l99;a9;a9;a9;w0 99;w0 99;w0 99;w0 99;", "m2;a5;w0 9;w0 9;w0 9;", "m4;l20;a7;w3 8;", "m1;a1;",
            "m5;a3;w0 9;w2 4;", "m3;a2;a2;a2;a2;w0 5;w0 5;w2 7;w2 8;w1 4;", "m2;a4;w4 4;w3 5;"};
        RoomBorn x = new RoomBorn();
        for (String text : texts) {
            Check.type(x, text);
            x.town();
            RoomBorn alone = Check.town(text);
            for (RoomBorn town : new RoomBorn[] {x, alone}) {
                for (int m = 0; m < 6; m++) {
                    town.bears(m, 0);
                }
            }
            Check.due("FILLED of " + text, alone.now(3), x.now(3));
            Check.due("WORKS of " + text, alone.count(2), x.count(2));
            Check.due("ROOMS of " + text, alone.count(0), x.count(0));
            Check.yes("who comes in " + text, Look.deeds(alone).equals(Look.deeds(x)));
            for (int c = 0; c < 6; c++) {
                Check.due("fills(" + c + ") of " + text, alone.fills(c), x.fills(c));
            }
        }
    }

    private static void theTraceGoesOn() {
        Doc.says("Terms", "THE TRACE goes on, as behind undo(), back().)");
        RoomBorn x = Check.town("a5;");
        x.keep(0);
        x.year();
        x.rate(3, 0);
        x.undo();
        Check.due("behind undo()", 1011, x.trace());
        x.rate(0, 0);
        Check.due("it goes on", 1012, x.trace());
        x.back(0);
        Check.due("behind back()", 1012, x.trace());
        x.rate(1, 0);
        Check.type(x, "a7;");
        x.town();
        Check.due("behind town()", 1023, x.trace());
        x.rate(5, 0);
        Check.due("it goes on then", 101024, x.trace());
    }
}
