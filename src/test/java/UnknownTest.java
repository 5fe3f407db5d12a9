/** Promises 19 to 22: sees, forget, ages, next. */
public final class UnknownTest {
    public static void main(String[] args) {
        seeing();
        forgetting();
        agesOfOne();
        trying();
        tryingNone();
        Check.end();
    }

    private static void seeing() {
        Check.promise(19, "sees");
        RoomBorn x = Check.town("w10 20;w0 99;");
        Check.due("sees(2, 0)", -1, x.sees(2, 0));
        Check.due("sees(-1, 0)", -1, x.sees(-1, 0));
        Check.due("sees(0, 2)", -1, x.sees(0, 2));
        Check.due("sees(0, -1)", -1, x.sees(0, -1));
        for (int i = 1; i <= 6; i++) {
            Check.due("sees(1, 1)", i, x.sees(1, 1));
        }
        Check.due("sees(0, 1), the seventh", -3, x.sees(0, 1));
        Check.due("sees(0, 2), BAD ahead of FULL", -1, x.sees(0, 2));
        Check.due("nothing of these is seen", 100, x.ages(0));
        Check.due("count(4)", 6, x.count(4));
        Check.due("sees(0, 0), no works", -1, new RoomBorn().sees(0, 0));
    }

    private static void forgetting() {
        Check.promise(20, "forget");
        RoomBorn x = Check.town("w10 20;");
        Check.due("forget()", 0, x.forget());
        x.sees(0, 1);
        x.sees(0, 1);
        Check.due("forget()", 2, x.forget());
        Check.due("count(4)", 0, x.count(4));
        Check.due("ages(0)", 100, x.ages(0));
        Check.due("sees(0, 0)", 1, x.sees(0, 0));
        Check.due("ages(0)", 89, x.ages(0));
    }

    private static void agesOfOne() {
        Check.promise(21, "ages");
        RoomBorn x = Check.town("l10;w10 20;w15 40;w0 50;w99 99;");
        ages(x, 100, 0, 99);
        x.sees(0, 0);
        ages(x, 89, 0, 99);
        x.sees(1, 1);
        ages(x, 20, 21, 40);
        x.sees(2, 1);
        ages(x, 20, 21, 40);
        x.sees(0, 1);
        ages(x, 0, -9, -9);
        x.forget();
        x.sees(3, 1);
        ages(x, 1, 99, 99);
        x.forget();
        x.sees(3, 0);
        x.sees(2, 1);
        ages(x, 51, 0, 50);
        x.forget();
        x.sees(0, 1);
        x.sees(0, 1);
        ages(x, 11, 10, 20);
        x.sees(1, 0);
        ages(x, 5, 10, 14);
        RoomBorn newborn = Check.town("w0 0;");
        newborn.sees(0, 1);
        ages(newborn, 1, 0, 0);
        Check.due("ages(-1)", -1, x.ages(-1));
        Check.due("ages(3)", -1, x.ages(3));
    }

    private static void ages(RoomBorn x, int many, int least, int greatest) {
        Check.due("ages(0)", many, x.ages(0));
        Check.due("ages(1)", least, x.ages(1));
        Check.due("ages(2)", greatest, x.ages(2));
    }

    private static void trying() {
        Check.promise(22, "next");
        RoomBorn x = Check.town("w0 9;w30 79;w50 99;w0 59;");
        Check.due("next(), of several the lowest", 1, x.next());
        x.sees(1, 1);
        Check.due("next()", 2, x.next());
        x.sees(2, 1);
        Check.due("next()", 3, x.next());
        x.sees(3, 1);
        Check.due("next(), none parts them", 0, x.next());
        Check.due("ages(0)", 10, x.ages(0));
        RoomBorn less = Check.town("w0 29;w0 39;w0 69;");
        Check.due("next(), the greater part", 1, less.next());
        RoomBorn first = Check.town("w5 5;w0 0;w0 1;");
        first.sees(2, 1);
        Check.due("next(), of the ages 0 and 1", 1, first.next());
        RoomBorn last = Check.town("w5 5;w99 99;w98 99;");
        last.sees(2, 1);
        Check.due("next(), of the ages 98 and 99", 1, last.next());
    }

    private static void tryingNone() {
        Check.promise(22, "next");
        Check.due("next(), no works", -9, new RoomBorn().next());
        RoomBorn x = Check.town("w5 5;w0 4;w5 6;");
        x.sees(2, 1);
        Check.due("next(), two ages", 0, x.next());
        x.sees(0, 1);
        Check.due("next(), one age", -9, x.next());
        x.sees(1, 1);
        Check.due("next(), no age", -9, x.next());
    }
}
