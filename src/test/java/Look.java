import java.util.function.Consumer;
import java.util.function.Supplier;

/** All that can be asked of a town without changing it, and whether two towns answer alike. */
final class Look {
    private Look() {
    }

    /** What every asking call answers; some 120 calls. */
    static String all(RoomBorn x) {
        StringBuilder seen = new StringBuilder(deeds(x));
        for (int what = 0; what <= 5; what++) {
            put(seen, x.count(what));
        }
        int rooms = x.count(0);
        for (int r = 0; r < rooms; r++) {
            int age = x.room(r, 1);
            put(seen, age);
            put(seen, x.join(age));
        }
        int mothers = x.count(1);
        for (int c = 0; c < mothers; c++) {
            put(seen, x.child(c, 3));
            put(seen, x.fills(c));
            put(seen, x.carry(c, 0));
            put(seen, x.carry(c, 1));
            put(seen, x.elder(c));
        }
        int works = x.count(2);
        for (int w = 0; w < works; w++) {
            for (int what = 0; what <= 3; what++) {
                put(seen, x.work(w, what));
            }
            put(seen, x.odds(w, 0));
            put(seen, x.odds(w, 1));
        }
        for (int what = 0; what <= 2; what++) {
            put(seen, x.ages(what));
        }
        put(seen, x.now(3));
        put(seen, x.now(4));
        put(seen, x.next());
        put(seen, x.trace());
        return seen.toString();
    }

    /** What a deed can change, and an image keeps. */
    static String deeds(RoomBorn x) {
        StringBuilder seen = new StringBuilder();
        put(seen, x.now(0));
        put(seen, x.now(1));
        put(seen, x.now(2));
        int rooms = x.count(0);
        for (int r = 0; r < rooms; r++) {
            put(seen, x.room(r, 0));
            put(seen, x.room(r, 2));
        }
        int mothers = x.count(1);
        for (int c = 0; c < mothers; c++) {
            put(seen, x.child(c, 2));
        }
        return seen.toString();
    }

    private static void put(StringBuilder seen, long answer) {
        seen.append(answer).append(' ');
    }

    /** A call leaves a town as one like it is that was not called: what is told, undone, kept and typed, too. */
    static void unchanged(String call, Supplier<RoomBorn> made, Consumer<RoomBorn> called) {
        RoomBorn[] now = twins(made, called);
        same(call + " leaves all as it was", all(now[0]), all(now[1]));
        RoomBorn[] undone = twins(made, called);
        for (int i = 0; i <= 10; i++) {
            Check.due("undo() " + i + " behind " + call, undone[0].undo(), undone[1].undo());
            same(call + " leaves what can be undone, " + i, deeds(undone[0]), deeds(undone[1]));
        }
        RoomBorn[] back = twins(made, called);
        for (int image = 1; image >= 0; image--) {
            Check.due("back(" + image + ") behind " + call, back[0].back(image), back[1].back(image));
            same(call + " leaves image " + image, deeds(back[0]), deeds(back[1]));
        }
        RoomBorn[] told = twins(made, called);
        Check.due("town() behind " + call, told[0].town(), told[1].town());
        same(call + " leaves the text", all(told[0]), all(told[1]));
    }

    private static RoomBorn[] twins(Supplier<RoomBorn> made, Consumer<RoomBorn> called) {
        RoomBorn[] twins = {made.get(), made.get()};
        called.accept(twins[1]);
        return twins;
    }

    private static void same(String what, String due, String got) {
        Check.yes(what + ": " + got + " is " + due, due.equals(got));
    }
}
