/** Part 2 of the terms: YEAR, AGE, BORN, JOINED, BUILT, UNDONE. */
final class YearsSentences {
    private static final String SIX = "a10;a20;a30;a40;a50;a60;";

    private YearsSentences() {
    }

    static void all() {
        atFirst();
        ageOfRooms();
        comesInARoom();
        lives();
        yearsGoBy();
        olderAndDying();
        joined();
        built();
        undone();
        tenAreKnown();
        theRingOfTen();
    }

    private static void atFirst() {
        Doc.says("Terms", "YEAR is 0 at first, no CHILD is BORN, no ROOMS are JOINED.");
        nothingIsDone(new RoomBorn(), "a new object");
        RoomBorn x = Check.town(SIX + "m6;");
        nothingIsDone(x, "a told one");
        for (int i = 0; i < 6; i++) {
            x.bears(i, i);
            x.joins(i, (i + 1) % 6);
            x.year();
        }
        Check.due("all are born", 63, x.now(2));
        Check.due("all are joined", 63, x.room(5, 2));
        Check.type(x, SIX + "m6;");
        Check.due("town()", 7, x.town());
        nothingIsDone(x, "one told anew");
    }

    private static void nothingIsDone(RoomBorn x, String which) {
        Check.due("YEAR of " + which, 0, x.now(0));
        Check.due("who is BORN of " + which, 0, x.now(2));
        for (int c = 0; c < x.count(1); c++) {
            Check.due("child " + c + " of " + which, 0, x.child(c, 0));
        }
        for (int r = 0; r < x.count(0); r++) {
            Check.due("room " + r + " of " + which, 1 << r, x.room(r, 2));
        }
    }

    private static void ageOfRooms() {
        Doc.says("Terms", "AGE of a ROOM: how OLD all ROOMS are together that are JOINED with it (itself, too), by how many these are (cut).");
        RoomBorn x = Check.town("a0;a99;a1;a1;a3;a5;");
        for (int r = 0; r < 6; r++) {
            Check.due("itself alone, " + r, x.room(r, 0), x.room(r, 1));
        }
        Check.due("99 by 2, cut", 49, x.joins(0, 1));
        Check.due("1 and 3, not cut", 2, x.joins(2, 4));
        Check.due("1, 3, 1: 5 by 3, cut", 1, x.joins(3, 4));
        Check.due("another is not in it", 5, x.room(5, 1));
        Check.due("99 and 5 by 5, cut", 20, x.joins(1, 3));
        Check.due("109 by 6, cut", 18, x.joins(5, 0));
        for (int r = 0; r < 6; r++) {
            Check.due("of each alike, " + r, 18, x.room(r, 1));
        }
        RoomBorn old = Check.town("a99;a99;a99;a99;a99;a99;");
        for (int r = 1; r < 6; r++) {
            Check.due("99 of all", 99, old.joins(r - 1, r));
        }
        for (int i = 0; i < 99; i++) {
            old.year();
        }
        Check.due("198, the greatest AGE", 198, old.room(3, 1));
        Check.due("1 and 0, cut to 0", 0, Check.town("a1;a0;").joins(0, 1));
    }

    private static void comesInARoom() {
        Doc.says("Terms", "BORN: the CHILD of a MOTHER who has had none yet comes in a ROOM: it is of the AGE of that ROOM,");
        for (int m = 0; m < 6; m++) {
            for (int r = 0; r < 6; r++) {
                RoomBorn x = Check.town(SIX + "m6;l99;");
                Check.due("bears(" + m + ", " + r + ")", 10 * r + 10, x.bears(m, r));
                Check.due("its age", 10 * r + 10, x.child(m, 2));
                Check.due("hers alone", 1 << m, x.now(2));
            }
        }
        RoomBorn x = Check.town(SIX + "m6;l41;");
        x.joins(0, 4);
        Check.due("of the AGE, not how OLD", 30, x.bears(0, 0));
        Check.due("of the AGE, the other room", 30, x.bears(1, 4));
        x.builds(4);
        Check.due("the room's later AGE is not the child's", 30, x.child(0, 2));
        Check.due("the next comes at 0", 0, x.bears(2, 4));
        Check.due("who has had one", -2, x.bears(0, 1));
        Check.due("who bears a dead one", 60, x.bears(3, 5));
        Check.due("who has had a dead one", -2, x.bears(3, 0));
        for (int i = 0; i < 11; i++) {
            x.year();
        }
        Check.due("it died", 0, x.child(0, 1));
        Check.due("whose child died", -2, x.bears(0, 0));
    }

    private static void lives() {
        Doc.says("Terms", "and LIVES, if that is less than LIFE.");
        RoomBorn x = Check.town("m6;l50;a49;a50;a51;a0;a99;");
        int[] alive = {1, 0, 0, 1, 0};
        int[] age = {49, 50, 51, 0, 99};
        for (int r = 0; r < 5; r++) {
            Check.due("bears(" + r + ", " + r + ")", age[r], x.bears(r, r));
            Check.due("whether " + r + " LIVES", alive[r], x.child(r, 1));
            Check.due("that " + r + " is BORN", 1, x.child(r, 0));
            Check.due("its age " + r, alive[r] == 1 ? age[r] : -9, x.child(r, 2));
        }
        Check.due("now(1)", 9, x.now(1));
        RoomBorn longest = Check.town("l99;a98;a99;");
        longest.bears(0, 0);
        longest.bears(1, 1);
        Check.due("by a LIFE of 99", 1, longest.now(1));
        RoomBorn shortest = Check.town("l10;a9;a10;");
        shortest.bears(0, 0);
        shortest.bears(1, 1);
        Check.due("by a LIFE of 10", 1, shortest.now(1));
    }

    private static void yearsGoBy() {
        Doc.says("Terms", "A YEAR goes by (99 at most):");
        RoomBorn x = Check.town("a5;");
        for (int i = 1; i <= 99; i++) {
            Check.due("year() " + i, 0, x.year());
            Check.due("now(0)", i, x.now(0));
        }
        Check.due("the 100th", -2, x.year());
        Check.due("now(0)", 99, x.now(0));
        Check.due("no room is older", 104, x.room(0, 0));
        Check.due("undo()", 9, x.undo());
        Check.due("the 99th again", 0, x.year());
        Check.due("the 100th again", -2, x.year());
    }

    private static void olderAndDying() {
        Doc.says("Terms", "each ROOM is a year OLDER, each who LIVES, too; who is of LIFE then DIES.");
        RoomBorn x = Check.town("m6;l12;a9;a10;a11;a99;a12;a0;");
        for (int m = 0; m < 5; m++) {
            x.bears(m, m);
        }
        x.joins(0, 5);
        x.builds(1);
        int[][] old = {{10, 1, 12, 100, 13, 1}, {11, 2, 13, 101, 14, 2}, {12, 3, 14, 102, 15, 3}};
        int[] living = {3, 1, 0};
        int[] age = {10, 11, -9};
        for (int i = 0; i < 3; i++) {
            Check.due("one DIES in year " + (i + 1), 1, x.year());
            for (int r = 0; r < 6; r++) {
                Check.due("room " + r, old[i][r], x.room(r, 0));
            }
            Check.due("who LIVES", living[i], x.now(1));
            Check.due("a year older", age[i], x.child(0, 2));
            Check.due("who is not born stays so", 0, x.child(5, 0));
            Check.due("who died is born", 31, x.now(2));
            Check.due("who came dead stays so", -9, x.child(3, 2));
        }
        Check.due("nobody is left to die", 0, x.year());
        RoomBorn all = Check.town("m6;l10;a9;");
        for (int m = 0; m < 6; m++) {
            all.bears(m, 0);
        }
        Check.due("all six DIE", 6, all.year());
        RoomBorn none = new RoomBorn();
        Check.due("a year without rooms", 0, none.year());
        Check.due("now(0)", 1, none.now(0));
    }

    private static void joined() {
        Doc.says("Terms", "JOINED: two ROOMS (all that is JOINED with one is JOINED with all that is with the other).");
        for (int a = 0; a < 6; a++) {
            for (int b = 0; b < 6; b++) {
                if (a != b) {
                    joinedPair(a, b);
                }
            }
        }
        RoomBorn x = Check.town(SIX);
        x.joins(0, 5);
        x.joins(1, 4);
        x.joins(4, 2);
        Check.due("two sets", 33, x.room(0, 2));
        Check.due("two sets", 22, x.room(2, 2));
        x.joins(5, 1);
        for (int r : new int[] {0, 1, 2, 4, 5}) {
            Check.due("all with all, " + r, 55, x.room(r, 2));
        }
        Check.due("but for one", 8, x.room(3, 2));
        x.joins(3, 2);
        for (int r = 0; r < 6; r++) {
            Check.due("all six, " + r, 63, x.room(r, 2));
        }
    }

    private static void joinedPair(int a, int b) {
        RoomBorn x = Check.town(SIX);
        Check.due("joins(" + a + ", " + b + ")", (10 * a + 10 * b + 20) / 2, x.joins(a, b));
        for (int r = 0; r < 6; r++) {
            int bits = r == a || r == b ? 1 << a | 1 << b : 1 << r;
            Check.due("joins(" + a + ", " + b + "), room " + r, bits, x.room(r, 2));
        }
        Check.due("joined", -2, x.joins(b, a));
    }

    private static void built() {
        Doc.says("Terms", "BUILT anew: a ROOM is 0 years OLD, and no more JOINED with others (these stay so).");
        for (int built = 0; built < 6; built++) {
            RoomBorn x = Check.town(SIX);
            for (int r = 1; r < 6; r++) {
                x.joins(0, r);
            }
            Check.due("builds(" + built + ") of six", 10 * built + 10, x.builds(built));
            Check.due("0 years OLD", 0, x.room(built, 0));
            Check.due("alone", 1 << built, x.room(built, 2));
            Check.due("its AGE", 0, x.room(built, 1));
            for (int r = 0; r < 6; r++) {
                if (r != built) {
                    Check.due("these stay so, " + r, 63 - (1 << built), x.room(r, 2));
                    Check.due("these stay as OLD, " + r, 10 * r + 10, x.room(r, 0));
                    Check.due("their AGE, " + r, (210 - 10 * built - 10) / 5, x.room(r, 1));
                }
            }
        }
        RoomBorn two = Check.town("a0;a0;a7;");
        two.joins(0, 1);
        Check.due("of two, one is left alone", 0, two.builds(0));
        Check.due("the other, alone", 2, two.room(1, 2));
        Check.due("the other can't be built now", -2, two.builds(1));
        Check.due("one alone", 7, two.builds(2));
        Check.due("it may be joined again", 0, two.joins(2, 0));
    }

    private static void undone() {
        Doc.says("Terms", "UNDONE: the latest bears(), year(), joins(), builds() that was not refused");
        String[] looks = new String[9];
        RoomBorn x = Check.town("m4;l30;" + SIX);
        looks[0] = Look.deeds(x);
        for (int deed = 0; deed < 8; deed++) {
            Check.yes("deed " + deed + " is not refused", deed(x, deed) >= 0);
            looks[deed + 1] = Look.deeds(x);
            refusedDeeds(x);
        }
        for (int deed = 7; deed >= 0; deed--) {
            Check.due("undo() of deed " + deed, deed, x.undo());
            Check.yes("as ahead of deed " + deed, looks[deed].equals(Look.deeds(x)));
        }
        Check.due("none is left", -2, x.undo());
        RoomBorn y = Check.town("a5;w0 9;");
        y.keep(0);
        y.sees(0, 1);
        y.forget();
        y.rate(3, 0);
        y.type('a');
        y.clear();
        Check.due("other calls are not undone", -2, y.undo());
    }

    private static int deed(RoomBorn x, int deed) {
        switch (deed) {
            case 0: return x.bears(1, 1);
            case 1: return x.joins(1, 2);
            case 2: return x.year();
            case 3: return x.builds(1);
            case 4: return x.bears(0, 5);
            case 5: return x.joins(1, 4);
            case 6: return x.builds(4);
            default: return x.year();
        }
    }

    private static void refusedDeeds(RoomBorn x) {
        int known = x.now(4);
        Check.due("bears(), refused", -2, x.bears(1, 0));
        Check.due("joins(), refused", -1, x.joins(3, 3));
        Check.due("builds(), refused", -1, x.builds(6));
        Check.due("none of them can be undone", known, x.now(4));
    }

    private static void tenAreKnown() {
        Doc.says("Terms", "(10 are known, older ones are lost).");
        for (int deeds = 8; deeds <= 13; deeds++) {
            RoomBorn x = Check.town("a0;");
            for (int i = 1; i <= deeds; i++) {
                x.year();
                Check.due("known behind " + i, Math.min(i, 10), x.now(4));
            }
            int known = Math.min(deeds, 10);
            for (int more = known - 1; more >= 0; more--) {
                Check.due("undo() of " + deeds, more, x.undo());
                Check.due("YEAR", deeds - known + more, x.now(0));
            }
            Check.due("older ones of " + deeds + " are lost", -2, x.undo());
            Check.due("YEAR", deeds - known, x.now(0));
        }
    }

    /** The places of ten deeds are used again: each number of deeds ahead, undone, and done again. */
    private static void theRingOfTen() {
        for (int ahead = 0; ahead <= 21; ahead++) {
            for (int back = 0; back <= Math.min(ahead, 10); back++) {
                RoomBorn x = Check.town("a0;");
                years(x, ahead);
                for (int i = 0; i < back; i++) {
                    x.undo();
                }
                years(x, 3);
                int year = ahead - back + 3;
                int known = Math.min(Math.min(ahead, 10) - back + 3, 10);
                for (int more = known - 1; more >= 0; more--) {
                    year--;
                    Check.due("undo() behind " + ahead + " less " + back, more, x.undo());
                    Check.due("YEAR behind " + ahead + " less " + back, year, x.now(0));
                    Check.due("room(0, 0) behind " + ahead + " less " + back, year, x.room(0, 0));
                }
                Check.due("none is left behind " + ahead + " less " + back, -2, x.undo());
            }
        }
    }

    private static void years(RoomBorn x, int many) {
        for (int i = 0; i < many; i++) {
            x.year();
        }
    }
}
