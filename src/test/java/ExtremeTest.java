/** Every call with every mix of wrong, extreme and ordinary numbers, in several states: the model's answer, and no throw. */
public final class ExtremeTest {
    private static final int[] NUMBERS = {
        Integer.MIN_VALUE, Integer.MIN_VALUE + 1, -1000000, -32, -2, -1, 0, 1, 2, 3, 4, 5, 6, 7,
        31, 32, 33, 64, 198, 199, 255, 256, 65536, Integer.MAX_VALUE - 1, Integer.MAX_VALUE};
    private static final String[] TOWNS = {
        "", "m6;", "a5;", "w0 99;", "l10;m1;a3;w2 9;", "l99;m6;a0;a98;a99;a50;a7;a7;w0 0;w0 99;w99 99;w7 50;w98 98;"};
    private static final int CALLS = 20;

    public static void main(String[] args) {
        Check.promise(0, "extreme numbers");
        for (String town : TOWNS) {
            for (int deeds = 0; deeds <= 7; deeds += 7) {
                for (int call = 0; call < CALLS; call++) {
                    run(town, deeds, call);
                }
            }
        }
        Check.end();
    }

    private static void run(String town, int deeds, int call) {
        for (int a : NUMBERS) {
            RoomBorn x = Check.town(town);
            Model y = new Model();
            for (int i = 0; i < town.length(); i++) {
                y.type(town.charAt(i));
            }
            y.town();
            for (int i = 0; i < deeds; i++) {
                Check.due("bears", y.bears(i, i), x.bears(i, i));
                Check.due("joins", y.joins(i, i / 2), x.joins(i, i / 2));
                Check.due("sees", y.sees(i, i % 2), x.sees(i, i % 2));
                Check.due("keep", y.keep(i - 6), x.keep(i - 6));
            }
            for (int b : NUMBERS) {
                Check.due(call + " with " + a + ", " + b + " of " + town, ask(y, call, a, b), ask(x, call, a, b));
            }
        }
    }

    private static long ask(RoomBorn x, int call, int a, int b) {
        switch (call) {
            case 0: return x.type(a);
            case 1: return x.room(a, b);
            case 2: return x.child(a, b);
            case 3: return x.work(a, b);
            case 4: return x.now(a);
            case 5: return x.bears(a, b);
            case 6: return x.joins(a, b);
            case 7: return x.builds(a);
            case 8: return x.fills(a);
            case 9: return x.carry(a, b);
            case 10: return x.join(a);
            case 11: return x.elder(a);
            case 12: return x.odds(a, b);
            case 13: return x.sees(a, b);
            case 14: return x.ages(a);
            case 15: return x.rate(a, b);
            case 16: return x.keep(a);
            case 17: return x.back(a);
            case 18: return x.count(a);
            default: return x.undo() * 1000L + x.year() * 100L + x.forget() * 10L + x.next() + x.trace();
        }
    }

    private static long ask(Model y, int call, int a, int b) {
        switch (call) {
            case 0: return y.type(a);
            case 1: return y.room(a, b);
            case 2: return y.child(a, b);
            case 3: return y.work(a, b);
            case 4: return y.now(a);
            case 5: return y.bears(a, b);
            case 6: return y.joins(a, b);
            case 7: return y.builds(a);
            case 8: return y.fills(a);
            case 9: return y.carry(a, b);
            case 10: return y.join(a);
            case 11: return y.elder(a);
            case 12: return y.odds(a, b);
            case 13: return y.sees(a, b);
            case 14: return y.ages(a);
            case 15: return y.rate(a, b);
            case 16: return y.keep(a);
            case 17: return y.back(a);
            case 18: return y.count(a);
            default: return y.undo() * 1000L + y.year() * 100L + y.forget() * 10L + y.next() + y.trace();
        }
    }
}
