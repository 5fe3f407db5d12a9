/** Promises 5 to 8: room, child, work, now. */
public final class TownTest {
    public static void main(String[] args) {
        rooms();
        children();
        works();
        lasts();
        nows();
        Check.end();
    }

    private static void rooms() {
        Check.promise(5, "room");
        RoomBorn x = Check.town("a5;a10;a0;a98;");
        Check.due("room(3, 0)", 98, x.room(3, 0));
        Check.due("room(3, 1)", 98, x.room(3, 1));
        Check.due("room(3, 2)", 8, x.room(3, 2));
        x.joins(0, 1);
        Check.due("AGE is cut", 7, x.room(0, 1));
        Check.due("AGE of the other", 7, x.room(1, 1));
        Check.due("OLD stays", 5, x.room(0, 0));
        Check.due("joined", 3, x.room(0, 2));
        Check.due("joined, the other", 3, x.room(1, 2));
        Check.due("not joined", 4, x.room(2, 2));
        Check.due("room(-1, 0)", -1, x.room(-1, 0));
        Check.due("room(4, 0)", -1, x.room(4, 0));
        Check.due("room(6, 0)", -1, x.room(6, 0));
        Check.due("room(greatest, 0)", -1, x.room(Integer.MAX_VALUE, 0));
        Check.due("room(least, 0)", -1, x.room(Integer.MIN_VALUE, 0));
        Check.due("room(0, -1)", -1, x.room(0, -1));
        Check.due("room(0, 3)", -1, x.room(0, 3));
    }

    private static void children() {
        Check.promise(6, "child");
        RoomBorn x = Check.town("m6;l40;a5;a39;a40;w0 5;w5 9;w6 9;w5 5;w0 99;");
        int[] unborn = {0, 0, -9, 0};
        for (int what = 0; what < 4; what++) {
            Check.due("child(5, " + what + ")", unborn[what], x.child(5, what));
        }
        x.bears(5, 0);
        int[] living = {1, 1, 5, 27};
        for (int what = 0; what < 4; what++) {
            Check.due("child(5, " + what + ")", living[what], x.child(5, what));
        }
        x.bears(0, 2);
        int[] stillborn = {1, 0, -9, 0};
        for (int what = 0; what < 4; what++) {
            Check.due("child(0, " + what + ")", stillborn[what], x.child(0, what));
        }
        x.bears(1, 1);
        Check.due("child(1, 2)", 39, x.child(1, 2));
        Check.due("child(1, 3)", 16, x.child(1, 3));
        x.year();
        for (int what = 0; what < 4; what++) {
            Check.due("child(1, " + what + ") that died", stillborn[what], x.child(1, what));
        }
        Check.due("child(5, 2) a year older", 6, x.child(5, 2));
        Check.due("child(5, 3) a year older", 22, x.child(5, 3));
        Check.due("child(6, 0)", -1, x.child(6, 0));
        Check.due("child(-1, 0)", -1, x.child(-1, 0));
        Check.due("child(0, -1)", -1, x.child(0, -1));
        Check.due("child(0, 4)", -1, x.child(0, 4));
        Check.due("child(3, 0) of three", -1, Check.town("m3;").child(3, 0));
    }

    private static void works() {
        Check.promise(7, "work");
        RoomBorn x = Check.town("m4;a5;a20;a80;w5 20;w6 19;w0 99;");
        Check.due("work(1, 0)", 6, x.work(1, 0));
        Check.due("work(1, 1)", 19, x.work(1, 1));
        Check.due("work(2, 2)", 0, x.work(2, 2));
        x.bears(0, 0);
        x.bears(2, 1);
        x.bears(3, 2);
        Check.due("work(0, 2)", 5, x.work(0, 2));
        Check.due("work(1, 2)", 0, x.work(1, 2));
        Check.due("work(2, 2)", 5, x.work(2, 2));
        Check.due("work(3, 0)", -1, x.work(3, 0));
        Check.due("work(-1, 0)", -1, x.work(-1, 0));
        Check.due("work(0, -1)", -1, x.work(0, -1));
        Check.due("work(0, 4)", -1, x.work(0, 4));
    }

    private static void lasts() {
        Check.promise(7, "work");
        RoomBorn x = Check.town("m3;l90;a5;a8;a29;w5 9;w6 19;w40 99;w0 89;w5 64;");
        Check.due("LASTS, nobody born", 0, x.work(0, 3));
        x.bears(0, 0);
        Check.due("LASTS to HIGH", 5, x.work(0, 3));
        Check.due("LASTS, not yet of LOW", 0, x.work(1, 3));
        x.bears(1, 1);
        Check.due("LASTS, the younger one longer", 5, x.work(0, 3));
        Check.due("LASTS, one behind the other", 15, x.work(1, 3));
        Check.due("LASTS, 60 just", 60, x.work(4, 3));
        Check.due("LASTS, longer than 60", -9, x.work(3, 3));
        x.bears(2, 2);
        Check.due("LASTS, nobody of LOW now", 0, x.work(2, 3));
        RoomBorn dying = Check.town("m1;l60;a57;w0 99;");
        dying.bears(0, 0);
        Check.due("LASTS to LIFE", 3, dying.work(0, 3));
        dying.year();
        Check.due("LASTS to LIFE, later", 2, dying.work(0, 3));
        RoomBorn gap = Check.town("m2;a0;a11;w10 12;");
        gap.bears(0, 0);
        gap.bears(1, 1);
        Check.due("LASTS to the first gap", 2, gap.work(0, 3));
        RoomBorn late = Check.town("a0;w0 20;");
        for (int i = 0; i < 99; i++) {
            late.year();
        }
        late.builds(0);
        late.bears(0, 0);
        Check.due("LASTS past year 99", 21, late.work(0, 3));
        RoomBorn sixty = Check.town("l99;m1;a0;w0 60;");
        sixty.bears(0, 0);
        Check.due("LASTS 61 is none", -9, sixty.work(0, 3));
        Check.due("it goes by in no year", 0, sixty.now(0));
        Check.due("and nobody is older", 0, sixty.child(0, 2));
    }

    private static void nows() {
        Check.promise(8, "now");
        RoomBorn x = Check.town("m5;l50;a0;a50;a49;w0 60;w0 60;w49 50;");
        x.bears(4, 0);
        x.bears(1, 1);
        x.bears(2, 2);
        int[] first = {0, 20, 22, 2, 3};
        for (int what = 0; what < 5; what++) {
            Check.due("now(" + what + ")", first[what], x.now(what));
        }
        x.year();
        int[] then = {1, 16, 22, 1, 4};
        for (int what = 0; what < 5; what++) {
            Check.due("now(" + what + ") then", then[what], x.now(what));
        }
        Check.due("now(-1)", -1, x.now(-1));
        Check.due("now(5)", -1, x.now(5));
    }
}
