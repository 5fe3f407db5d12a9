/** Promises 14 to 18: fills, carry, join, elder, odds. */
public final class WorksTest {
    public static void main(String[] args) {
        filling();
        fillingInOrder();
        carrying();
        carryingNowhere();
        joinFor();
        elders();
        oddsOfBirths();
        oddsAtEdges();
        Check.end();
    }

    private static void filling() {
        Check.promise(14, "fills");
        RoomBorn x = Check.town("m4;a10;a20;a30;w10 20;w10 10;w25 30;");
        Check.due("fills(0), unborn", -9, x.fills(0));
        x.bears(0, 0);
        Check.due("fills(0), the lowest", 0, x.fills(0));
        x.bears(1, 1);
        Check.due("fills(0), so that two work", 1, x.fills(0));
        Check.due("fills(1)", 0, x.fills(1));
        x.bears(3, 2);
        Check.due("fills(2), unborn", -9, x.fills(2));
        Check.due("fills(3)", 2, x.fills(3));
        Check.due("now(3)", 3, x.now(3));
        Check.due("fills(4)", -1, x.fills(4));
        Check.due("fills(-1)", -1, x.fills(-1));
        Check.due("fills(0), no works", -9, Check.town("a1;").fills(0));
    }

    private static void fillingInOrder() {
        Check.promise(14, "fills");
        RoomBorn x = Check.town("m6;a1;w0 5;w0 5;");
        for (int m = 0; m < 6; m++) {
            x.bears(m, 0);
        }
        int[] due = {0, 1, -9, -9, -9, -9};
        for (int c = 0; c < 6; c++) {
            Check.due("fills(" + c + ")", due[c], x.fills(c));
        }
        RoomBorn one = Check.town("m3;a5;a50;w0 9;");
        one.bears(0, 1);
        one.bears(1, 0);
        one.bears(2, 0);
        Check.due("fills(0), can't", -9, one.fills(0));
        Check.due("fills(1)", 0, one.fills(1));
        Check.due("fills(2)", -9, one.fills(2));
        RoomBorn chain = Check.town("m5;a1;a2;a3;a4;a5;w4 5;w3 4;w2 3;w1 2;w1 1;");
        for (int m = 0; m < 5; m++) {
            chain.bears(m, m);
        }
        int[] all = {4, 3, 2, 1, 0};
        for (int c = 0; c < 5; c++) {
            Check.due("fills(" + c + ") of a chain", all[c], chain.fills(c));
        }
        Check.due("now(3)", 5, chain.now(3));
    }

    private static void carrying() {
        Check.promise(15, "carry");
        RoomBorn x = Check.town("m4;l40;a50;a5;a20;a30;a21;w20 30;w20 22;");
        Check.due("carry(0, 0), the lowest of several", 2, x.carry(0, 0));
        Check.due("carry(0, 1)", 1, x.carry(0, 1));
        x.bears(0, 3);
        Check.due("carry(0, 0), born", -2, x.carry(0, 0));
        Check.due("carry(1, 0)", 2, x.carry(1, 0));
        Check.due("carry(1, 1)", 2, x.carry(1, 1));
        x.bears(1, 2);
        Check.due("carry(3, 0), no room is better", 0, x.carry(3, 0));
        Check.due("carry(3, 1)", 2, x.carry(3, 1));
        Check.due("nothing is changed", 3, x.now(2));
        Check.due("nothing is changed", 2, x.now(4));
        Check.due("nothing is changed", -9, x.fills(3));
        Check.due("nothing is changed", 2, x.now(3));
        Check.due("carry(4, 0)", -1, x.carry(4, 0));
        Check.due("carry(-1, 0)", -1, x.carry(-1, 0));
        Check.due("carry(2, 2)", -1, x.carry(2, 2));
        Check.due("carry(2, -1)", -1, x.carry(2, -1));
        Check.due("carry(0, 2), BAD ahead of STATE", -1, x.carry(0, 2));
    }

    private static void carryingNowhere() {
        Check.promise(15, "carry");
        RoomBorn x = Check.town("w0 99;");
        Check.due("carry(0, 0), no rooms", -9, x.carry(0, 0));
        Check.due("carry(0, 1), no rooms", -9, x.carry(0, 1));
        RoomBorn y = Check.town("a1;a2;");
        Check.due("carry(0, 0), no works", 0, y.carry(0, 0));
        Check.due("carry(0, 1), no works", 0, y.carry(0, 1));
        RoomBorn old = Check.town("l40;a40;a39;w0 99;");
        Check.due("carry(0, 0), where it lives", 1, old.carry(0, 0));
        old.joins(0, 1);
        Check.due("carry(0, 0), by AGE", 0, old.carry(0, 0));
        Check.due("carry(0, 1), by AGE", 1, old.carry(0, 1));
        old.bears(1, 0);
        old.year();
        Check.due("carry(2, 1), nobody lives there", 0, old.carry(2, 1));
    }

    private static void joinFor() {
        Check.promise(16, "join");
        RoomBorn x = Check.town("a10;a20;a30;a0;a40;");
        Check.due("join(20), the fewest", 2, x.join(20));
        Check.due("join(25), of two", 6, x.join(25));
        Check.due("join(15), the least bits", 3, x.join(15));
        Check.due("join(5)", 9, x.join(5));
        Check.due("join(0)", 8, x.join(0));
        Check.due("join(13), cut", 13, x.join(13));
        Check.due("join(26), cut", 19, Check.town("a10;a20;a30;a0;a50;").join(26));
        Check.due("join(41)", -9, x.join(41));
        x.joins(1, 0);
        x.joins(1, 2);
        Check.due("join(30), whatever is joined", 4, x.join(30));
        Check.due("nothing is joined by it", 7, x.room(0, 2));
        Check.due("join(-1)", -1, x.join(-1));
        Check.due("join(199)", -1, x.join(199));
        Check.due("join(198)", -9, x.join(198));
        Check.due("join(0), no rooms", -9, new RoomBorn().join(0));
        RoomBorn old = Check.town("a99;a1;");
        for (int i = 0; i < 99; i++) {
            old.year();
        }
        Check.due("join(198)", 1, old.join(198));
        Check.due("join(149)", 3, old.join(149));
        Check.due("join(16), all six", 63, Check.town("a0;a0;a99;a0;a0;a0;").join(16));
        Check.due("join(19), five of six", 31, Check.town("a0;a0;a99;a0;a0;a0;").join(19));
    }

    private static void elders() {
        Check.promise(17, "elder");
        RoomBorn x = Check.town("m5;l60;a7;a30;a60;a29;");
        Check.due("elder(0), none", -9, x.elder(0));
        x.bears(4, 1);
        x.bears(3, 0);
        x.bears(1, 1);
        x.bears(2, 2);
        x.bears(0, 3);
        int[] due = {1, 4, 0, 3, -9, -9};
        for (int k = 0; k < 6; k++) {
            Check.due("elder(" + k + ")", due[k], x.elder(k));
        }
        Check.due("elder(-1)", -1, x.elder(-1));
        Check.due("elder(6)", -1, x.elder(6));
        Check.due("elder(5) of one mother", -9, Check.town("m1;").elder(5));
        Check.due("elder(6) of one mother", -1, Check.town("m1;").elder(6));
    }

    private static void oddsOfBirths() {
        Check.promise(18, "odds");
        RoomBorn x = Check.town("m3;l50;a10;a20;a60;a30;w10 20;w0 99;w31 99;");
        Check.due("odds(0, 0)", 7, x.odds(0, 0));
        Check.due("odds(0, 1)", 8, x.odds(0, 1));
        Check.due("odds(1, 0), who lives", 63, x.odds(1, 0));
        Check.due("odds(1, 1)", 64, x.odds(1, 1));
        Check.due("odds(2, 0), never", 0, x.odds(2, 0));
        Check.due("odds(2, 1), never", 1, x.odds(2, 1));
        x.bears(1, 0);
        Check.due("odds(0, 0), of these alone", 3, x.odds(0, 0));
        Check.due("odds(0, 1)", 4, x.odds(0, 1));
        x.joins(0, 1);
        x.joins(0, 2);
        Check.due("odds(0, 0), by AGE", 0, x.odds(0, 0));
        Check.due("odds(1, 0), all", 1, x.odds(1, 0));
        Check.due("odds(1, 1), all", 1, x.odds(1, 1));
        Check.due("odds(-1, 0)", -1, x.odds(-1, 0));
        Check.due("odds(3, 0)", -1, x.odds(3, 0));
        Check.due("odds(0, 2)", -1, x.odds(0, 2));
        Check.due("odds(0, -1)", -1, x.odds(0, -1));
    }

    private static void oddsAtEdges() {
        Check.promise(18, "odds");
        RoomBorn none = Check.town("w0 99;");
        Check.due("odds(0, 0), no rooms", 0, none.odds(0, 0));
        Check.due("odds(0, 1), no rooms", 1, none.odds(0, 1));
        Check.due("odds(0, 0), no works", -1, Check.town("a1;").odds(0, 0));
        RoomBorn all = Check.town("m1;a5;w0 99;");
        Check.due("odds(0, 0), one room", 1, all.odds(0, 0));
        Check.due("odds(0, 1), one room", 1, all.odds(0, 1));
        all.bears(0, 0);
        Check.due("odds(0, 0), none unborn", 0, all.odds(0, 0));
        Check.due("odds(0, 1), none unborn", 1, all.odds(0, 1));
        RoomBorn most = Check.town("m6;a1;a2;a3;a4;a5;a6;w1 1;w1 4;");
        Check.due("odds(0, 0) of six", 31031, most.odds(0, 0));
        Check.due("odds(0, 1) of six", 46656, most.odds(0, 1));
        Check.due("odds(1, 0) in least terms", 728, most.odds(1, 0));
        Check.due("odds(1, 1) in least terms", 729, most.odds(1, 1));
        RoomBorn dead = Check.town("l50;m2;a1;a50;w0 99;");
        dead.bears(0, 1);
        Check.due("odds(0, 0), the dead are born", 1, dead.odds(0, 0));
        Check.due("odds(0, 1), the dead are born", 2, dead.odds(0, 1));
    }
}
