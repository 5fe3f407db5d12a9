import java.util.ArrayDeque;
import java.util.ArrayList;
import java.util.Deque;
import java.util.List;
import java.util.regex.Matcher;
import java.util.regex.Pattern;

/** The document once more, by other means than the program's: slow, by trying out all that there is. */
final class Model {
    private static final Pattern TOKEN = Pattern.compile("(?s) *(?:([0-9]+)|(.))");

    /** What a deed changes. */
    private static final class Now {
        int year = 0;
        List<Integer> old = new ArrayList<>();
        List<Integer> group = new ArrayList<>();
        Integer[] age;
        boolean[] born;

        Now copy() {
            Now c = new Now();
            c.year = year;
            c.old = new ArrayList<>(old);
            c.group = new ArrayList<>(group);
            c.age = age.clone();
            c.born = born.clone();
            return c;
        }
    }

    String text = "";
    int mothers = 3;
    int life = 70;
    List<int[]> works = new ArrayList<>();
    Now now = new Now();
    Deque<Now> past = new ArrayDeque<>();
    Now[] images = new Now[2];
    List<int[]> seen = new ArrayList<>();
    long trace = 0;
    int groups = 0;
    private int mostWorks;
    private int[] firstWay;

    Model() {
        now.age = new Integer[3];
        now.born = new boolean[3];
    }

    int type(int letter) {
        if (letter < 0 || letter > 255) {
            return -1;
        }
        if (text.length() == 120) {
            return -3;
        }
        text += (char) letter;
        return text.length();
    }

    int clear() {
        int had = text.length();
        text = "";
        return had;
    }

    int town() {
        List<String> tokens = new ArrayList<>();
        List<Integer> places = new ArrayList<>();
        String trimmed = text;
        while (trimmed.endsWith(" ")) {
            trimmed = trimmed.substring(0, trimmed.length() - 1);
        }
        Matcher m = TOKEN.matcher(trimmed);
        while (m.find()) {
            int g = m.group(1) != null ? 1 : 2;
            tokens.add(m.group(g));
            places.add(m.start(g));
        }
        List<Integer> rooms = new ArrayList<>();
        List<int[]> newWorks = new ArrayList<>();
        Integer newMothers = null;
        Integer newLife = null;
        int items = 0;
        int i = 0;
        while (i < tokens.size()) {
            String t = tokens.get(i);
            int[][] bounds;
            switch (t) {
                case "a": bounds = rooms.size() < 6 ? new int[][] {{0, 99}} : null; break;
                case "w": bounds = newWorks.size() < 5 ? new int[][] {{0, 99}, {0, 99}} : null; break;
                case "m": bounds = newMothers == null ? new int[][] {{1, 6}} : null; break;
                case "l": bounds = newLife == null ? new int[][] {{10, 99}} : null; break;
                default: bounds = null;
            }
            if (bounds == null) {
                return -10 - places.get(i);
            }
            int[] got = new int[bounds.length];
            for (int n = 0; n < bounds.length; n++) {
                i++;
                if (i >= tokens.size()) {
                    return -10 - text.length();
                }
                if (!tokens.get(i).matches("0|[1-9][0-9]?")) {
                    return -10 - places.get(i);
                }
                got[n] = Integer.parseInt(tokens.get(i));
                if (got[n] < bounds[n][0] || got[n] > bounds[n][1] || n == 1 && got[1] < got[0]) {
                    return -10 - places.get(i);
                }
            }
            i++;
            if (i >= tokens.size()) {
                return -10 - text.length();
            }
            if (!tokens.get(i).equals(";")) {
                return -10 - places.get(i);
            }
            i++;
            items++;
            switch (t) {
                case "a": rooms.add(got[0]); break;
                case "w": newWorks.add(got); break;
                case "m": newMothers = got[0]; break;
                default: newLife = got[0];
            }
        }
        mothers = newMothers == null ? 3 : newMothers;
        life = newLife == null ? 70 : newLife;
        works = newWorks;
        now = new Now();
        now.old = rooms;
        for (int r = 0; r < rooms.size(); r++) {
            now.group.add(groups++);
        }
        now.age = new Integer[mothers];
        now.born = new boolean[mothers];
        past.clear();
        images = new Now[2];
        seen.clear();
        text = "";
        return items;
    }

    boolean noRoom(int r) {
        return r < 0 || r >= now.old.size();
    }

    boolean noMother(int c) {
        return c < 0 || c >= mothers;
    }

    boolean noWork(int w) {
        return w < 0 || w >= works.size();
    }

    int ageOf(int r) {
        double sum = 0;
        int many = 0;
        for (int o = 0; o < now.old.size(); o++) {
            if (now.group.get(o).equals(now.group.get(r))) {
                sum += now.old.get(o);
                many++;
            }
        }
        return (int) Math.floor(sum / many + 1e-9);
    }

    int joinedWith(int r) {
        int bits = 0;
        for (int o = 0; o < now.old.size(); o++) {
            if (now.group.get(o).equals(now.group.get(r))) {
                bits += 1 << o;
            }
        }
        return bits;
    }

    int room(int r, int what) {
        if (noRoom(r) || what < 0 || what > 2) {
            return -1;
        }
        return what == 0 ? now.old.get(r) : what == 1 ? ageOf(r) : joinedWith(r);
    }

    boolean can(Integer age, int w, int later) {
        if (age == null || age + later >= life) {
            return false;
        }
        return age + later >= works.get(w)[0] && age + later <= works.get(w)[1];
    }

    int child(int c, int what) {
        if (noMother(c) || what < 0 || what > 3) {
            return -1;
        }
        if (what == 0) {
            return now.born[c] ? 1 : 0;
        }
        if (what == 1) {
            return now.age[c] != null ? 1 : 0;
        }
        if (what == 2) {
            return now.age[c] != null ? now.age[c] : -9;
        }
        int bits = 0;
        for (int w = 0; w < works.size(); w++) {
            bits += can(now.age[c], w, 0) ? 1 << w : 0;
        }
        return bits;
    }

    int work(int w, int what) {
        if (noWork(w) || what < 0 || what > 3) {
            return -1;
        }
        if (what < 2) {
            return works.get(w)[what];
        }
        if (what == 2) {
            return who(w, 0);
        }
        for (int k = 0; k <= 60; k++) {
            if (who(w, k) == 0) {
                return k;
            }
        }
        return -9;
    }

    int who(int w, int later) {
        int bits = 0;
        for (int c = 0; c < mothers; c++) {
            bits += can(now.age[c], w, later) ? 1 << c : 0;
        }
        return bits;
    }

    int now(int what) {
        int bits = 0;
        switch (what) {
            case 0: return now.year;
            case 1:
                for (int c = 0; c < mothers; c++) {
                    bits += now.age[c] != null ? 1 << c : 0;
                }
                return bits;
            case 2:
                for (int c = 0; c < mothers; c++) {
                    bits += now.born[c] ? 1 << c : 0;
                }
                return bits;
            case 3: return most(now.age);
            case 4: return past.size();
            default: return -1;
        }
    }

    void remember() {
        past.addLast(now.copy());
        if (past.size() > 10) {
            past.removeFirst();
        }
    }

    int bears(int m, int r) {
        if (noMother(m) || noRoom(r)) {
            return -1;
        }
        if (now.born[m]) {
            return -2;
        }
        remember();
        now.born[m] = true;
        int age = ageOf(r);
        now.age[m] = age < life ? (Integer) age : null;
        return age;
    }

    int year() {
        if (now.year == 99) {
            return -2;
        }
        remember();
        now.year++;
        now.old.replaceAll(o -> o + 1);
        int die = 0;
        for (int c = 0; c < mothers; c++) {
            if (now.age[c] != null) {
                now.age[c] = now.age[c] + 1;
                if (now.age[c] == life) {
                    now.age[c] = null;
                    die++;
                }
            }
        }
        return die;
    }

    int joins(int a, int b) {
        if (noRoom(a) || noRoom(b) || a == b) {
            return -1;
        }
        Integer ga = now.group.get(a);
        Integer gb = now.group.get(b);
        if (ga.equals(gb)) {
            return -2;
        }
        remember();
        now.group.replaceAll(g -> g.equals(gb) ? ga : g);
        return ageOf(b);
    }

    int builds(int r) {
        if (noRoom(r)) {
            return -1;
        }
        int was = now.old.get(r);
        if (was == 0 && Integer.bitCount(joinedWith(r)) == 1) {
            return -2;
        }
        remember();
        now.old.set(r, 0);
        now.group.set(r, groups++);
        return was;
    }

    int undo() {
        if (past.isEmpty()) {
            return -2;
        }
        now = past.removeLast();
        return past.size();
    }

    /** All ways in the order in which the document counts them; the first of the best stays. */
    int most(Integer[] ages) {
        mostWorks = -1;
        ways(ages, 0, new int[mothers], 0);
        return mostWorks;
    }

    void ways(Integer[] ages, int c, int[] way, int done) {
        if (c == mothers) {
            if (done > mostWorks) {
                mostWorks = done;
                firstWay = way.clone();
            }
            return;
        }
        for (int w = 0; w < works.size(); w++) {
            boolean taken = false;
            for (int o = 0; o < c; o++) {
                taken |= way[o] == w;
            }
            if (!taken && can(ages[c], w, 0)) {
                way[c] = w;
                ways(ages, c + 1, way, done + 1);
            }
        }
        way[c] = -9;
        ways(ages, c + 1, way, done);
    }

    int fills(int c) {
        if (noMother(c)) {
            return -1;
        }
        most(now.age);
        return firstWay[c];
    }

    int carry(int m, int what) {
        if (noMother(m) || what < 0 || what > 1) {
            return -1;
        }
        if (now.born[m]) {
            return -2;
        }
        int[] best = {-9, -9};
        for (int r = now.old.size() - 1; r >= 0; r--) {
            Integer[] ages = now.age.clone();
            ages[m] = ageOf(r);
            int many = most(ages);
            if (many >= best[1]) {
                best = new int[] {r, many};
            }
        }
        return best[what];
    }

    int join(int a) {
        if (a < 0 || a > 198) {
            return -1;
        }
        for (int size = 1; size <= now.old.size(); size++) {
            for (int set = 0; set < 1 << now.old.size(); set++) {
                int sum = 0;
                int many = 0;
                for (int r = 0; r < now.old.size(); r++) {
                    if (set / (1 << r) % 2 == 1) {
                        sum += now.old.get(r);
                        many++;
                    }
                }
                if (many == size && sum >= a * many && sum < (a + 1) * many) {
                    return set;
                }
            }
        }
        return -9;
    }

    int elder(int k) {
        if (k < 0 || k > 5) {
            return -1;
        }
        List<Integer> all = new ArrayList<>();
        for (int c = 0; c < mothers; c++) {
            if (now.age[c] != null) {
                all.add(c);
            }
        }
        all.sort((a, b) -> now.age[b] - now.age[a]);
        return k < all.size() ? all.get(k) : -9;
    }

    int odds(int w, int what) {
        if (noWork(w) || what < 0 || what > 1) {
            return -1;
        }
        int[] count = new int[2];
        int unborn = 0;
        for (int c = 0; c < mothers; c++) {
            unborn += now.born[c] ? 0 : 1;
        }
        if (now.old.isEmpty()) {
            return what;
        }
        comings(w, unborn, false, count);
        int upper = count[1];
        int lower = count[0] + count[1];
        for (int d = 2; d <= 5; d++) {
            while (upper % d == 0 && lower % d == 0) {
                upper /= d;
                lower /= d;
            }
        }
        return upper == 0 ? what : what == 0 ? upper : lower;
    }

    void comings(int w, int left, boolean one, int[] count) {
        if (left == 0) {
            count[one ? 1 : 0]++;
            return;
        }
        for (int r = 0; r < now.old.size(); r++) {
            comings(w, left - 1, one || can(ageOf(r), w, 0), count);
        }
    }

    int sees(int w, int can) {
        if (noWork(w) || can < 0 || can > 1) {
            return -1;
        }
        if (seen.size() == 6) {
            return -3;
        }
        seen.add(new int[] {w, can});
        return seen.size();
    }

    int forget() {
        int had = seen.size();
        seen.clear();
        return had;
    }

    List<Integer> possible() {
        List<Integer> all = new ArrayList<>();
        for (int a = 0; a < 100; a++) {
            boolean fits = true;
            for (int[] s : seen) {
                fits &= within(s[0], a) == (s[1] == 1);
            }
            if (fits) {
                all.add(a);
            }
        }
        return all;
    }

    boolean within(int w, int age) {
        return age >= works.get(w)[0] && age <= works.get(w)[1];
    }

    int ages(int what) {
        List<Integer> all = possible();
        switch (what) {
            case 0: return all.size();
            case 1: return all.isEmpty() ? -9 : all.get(0);
            case 2: return all.isEmpty() ? -9 : all.get(all.size() - 1);
            default: return -1;
        }
    }

    int next() {
        List<Integer> all = possible();
        int best = -9;
        int bestGreater = 1000;
        for (int w = works.size() - 1; w >= 0 && all.size() > 1; w--) {
            int in = 0;
            int out = 0;
            for (int a : all) {
                if (within(w, a)) {
                    in++;
                } else {
                    out++;
                }
            }
            if (Math.max(in, out) <= bestGreater) {
                bestGreater = Math.max(in, out);
                best = w;
            }
        }
        return best;
    }

    int rate(int kind, int c) {
        if (kind < 0 || kind > 5 || noMother(c)) {
            return -1000000;
        }
        int[] above = {-1, 0, 0, 1, 2, 0};
        int[] price = {1, 10, 100, 1000, 10000, 100000};
        List<Integer> down = new ArrayList<>();
        for (int k = kind; k >= 0; k = above[k]) {
            down.add(0, k);
        }
        int value = 0;
        for (int k : down) {
            trace += price[k];
            switch (k) {
                case 0: value = now.age[c] == null ? 0 : now.age[c]; break;
                case 1: value += now.year; break;
                case 2: value -= Integer.bitCount(child(c, 3)); break;
                case 3: value *= 2; break;
                case 4: value += c; break;
                default: value += Integer.bitCount(now(1));
            }
        }
        return value;
    }

    int keep(int image) {
        if (image < 0 || image > 1) {
            return -1;
        }
        images[image] = now.copy();
        return now.year;
    }

    int back(int image) {
        if (image < 0 || image > 1) {
            return -1;
        }
        if (images[image] == null) {
            return -2;
        }
        now = images[image].copy();
        past.clear();
        return now.year;
    }

    int count(int what) {
        int[] all = {now.old.size(), mothers, works.size(), life, seen.size(), text.length()};
        return what < 0 || what > 5 ? -1 : all[what];
    }

    long trace() {
        return trace;
    }
}
