/** Long runs of calls, all promises mixed, against the model; the runs are always the same ones. */
public final class ModelTest {
    private static final String LETTERS = "aawml;;; 0123456789 ;x";

    private long state;
    private RoomBorn x;
    private Model y;

    public static void main(String[] args) {
        Check.promise(0, "all promises mixed");
        for (int run = 0; run < 600; run++) {
            new ModelTest().run(run);
        }
        Check.end();
    }

    private void run(int number) {
        state = 88172645463325252L + 7919L * number;
        x = new RoomBorn();
        y = new Model();
        int calls = 0;
        while (calls < 400) {
            if (calls == 0 || any(40) == 0) {
                calls += tell(number % 3 == 2 ? anyLetters() : anyTown());
            } else {
                ask(number, any(27));
                calls++;
            }
        }
    }

    private int any(int below) {
        state ^= state << 13;
        state ^= state >>> 7;
        state ^= state << 17;
        return (int) Math.floorMod(state, (long) below);
    }

    private int around(int below) {
        return any(25) == 0 ? any(2 * below + 4) - below - 2 : any(below);
    }

    private int tell(String text) {
        for (int i = 0; i < text.length(); i++) {
            Check.due("type(" + (int) text.charAt(i) + ")", y.type(text.charAt(i)), x.type(text.charAt(i)));
        }
        Check.due("town() of " + y.text, y.town(), x.town());
        return text.length() + 1;
    }

    private String anyLetters() {
        StringBuilder text = new StringBuilder();
        int length = any(30);
        for (int i = 0; i < length; i++) {
            text.append(LETTERS.charAt(any(LETTERS.length())));
        }
        return any(3) == 0 ? anyTown() + text : text.toString();
    }

    private String anyTown() {
        StringBuilder text = new StringBuilder();
        int rooms = any(60) == 0 ? 7 : any(7);
        int works = any(60) == 0 ? 6 : any(6);
        int small = any(2) == 0 ? 12 : 101;
        for (int r = 0; r < rooms; r++) {
            text.append('a').append(any(small)).append(';');
        }
        if (any(3) > 0) {
            text.append('m').append(any(10) == 0 ? any(9) : 1 + any(6)).append(';');
        }
        for (int w = 0; w < works; w++) {
            int low = any(small);
            text.append('w').append(low).append(' ').append(low + any(30) - (any(60) == 0 ? 15 : 0)).append(';');
        }
        if (any(3) > 0) {
            text.append('l').append(any(10) == 0 ? any(110) : small == 12 ? 10 + any(10) : 30 + any(70)).append(';');
        }
        return text.toString();
    }

    private void ask(int run, int call) {
        int a = around(6);
        int b = around(6);
        int c = around(5);
        String with = " of run " + run + " with " + a + ", " + b + ", " + c;
        switch (call) {
            case 0: Check.due("room" + with, y.room(a, c), x.room(a, c)); break;
            case 1: Check.due("child" + with, y.child(a, c), x.child(a, c)); break;
            case 2: Check.due("work" + with, y.work(c, a), x.work(c, a)); break;
            case 3: Check.due("now" + with, y.now(a), x.now(a)); break;
            case 4: case 5: Check.due("bears" + with, y.bears(a, b), x.bears(a, b)); break;
            case 6: Check.due("joins" + with, y.joins(a, b), x.joins(a, b)); break;
            case 7: if (any(2) == 0) Check.due("builds" + with, y.builds(a), x.builds(a)); break;
            case 8: Check.due("undo" + with, y.undo(), x.undo()); break;
            case 9: Check.due("fills" + with, y.fills(a), x.fills(a)); break;
            case 10: Check.due("carry" + with, y.carry(a, c % 2), x.carry(a, c % 2)); break;
            case 11: int age = around(199); Check.due("join " + age + with, y.join(age), x.join(age)); break;
            case 12: Check.due("elder" + with, y.elder(a), x.elder(a)); break;
            case 13: Check.due("odds" + with, y.odds(c, a % 2), x.odds(c, a % 2)); break;
            case 14: Check.due("sees" + with, y.sees(c, a % 2), x.sees(c, a % 2)); break;
            case 15: if (any(3) == 0) Check.due("forget" + with, y.forget(), x.forget()); break;
            case 16: Check.due("ages" + with, y.ages(c), x.ages(c)); break;
            case 17: Check.due("next" + with, y.next(), x.next()); break;
            case 18: Check.due("rate" + with, y.rate(a, b), x.rate(a, b)); break;
            case 19: Check.due("keep" + with, y.keep(a / 2), x.keep(a / 2)); break;
            case 20: if (any(3) == 0) Check.due("back" + with, y.back(a / 2), x.back(a / 2)); break;
            case 21: Check.due("count" + with, y.count(a), x.count(a)); break;
            case 22: Check.due("trace" + with, y.trace(), x.trace()); break;
            case 23: if (any(8) == 0) Check.due("clear" + with, y.clear(), x.clear()); break;
            case 24: int near = y.count(0) == 0 ? 3 : y.room(any(y.count(0)), 1);
                Check.due("join " + near + with, y.join(near), x.join(near)); break;
            default: Check.due("year" + with, y.year(), x.year());
        }
    }
}
