import java.util.ArrayList;
import java.util.Arrays;
import java.util.HashMap;
import java.util.List;
import java.util.Map;
import java.util.Random;

/**
 * Runs of drawn calls, answered by SnowMoney and by a second program written apart from it: the duchy is cloned and
 * lived on hour by hour, every set and way is tried, TEXTS are worked out while they are read.
 */
public final class ModelTest {
    private static final int RUNS = 500;
    private static final int CALLS = 512;

    private ModelTest() {
    }

    // ---- the second program

    private static final class Refused extends RuntimeException {
        final int k;

        Refused(int k) {
            super(null, null, false, false);
            this.k = k;
        }
    }

    private static void need(boolean good, int k) {
        if (!good) {
            throw new Refused(k);
        }
    }

    private static boolean in(long v, long least, long most) {
        return v >= least && v <= most;
    }

    private static final class Fault extends RuntimeException {
        final int at;

        Fault(int at) {
            super(null, null, false, false);
            this.at = at;
        }
    }

    /** Works a TEXT out straight from its bytes, so that nothing of it is kept between. */
    private static final class Calc {
        final String s;
        final String names;
        final int[] v;
        int at = 0;
        int open = 0;

        Calc(String s, String names, int... v) {
            this.s = s;
            this.names = names;
            this.v = v;
        }

        char peek() {
            return at < s.length() ? s.charAt(at) : (char) 999;
        }

        boolean eat(char c) {
            boolean is = peek() == c;
            at += is ? 1 : 0;
            return is;
        }

        int all() {
            int r = or();
            if (at < s.length()) {
                throw new Fault(at);
            }
            return r;
        }

        int or() {
            int r = and();
            while (eat('|')) {
                int b = and();
                r = r != 0 | b != 0 ? 1 : 0;
            }
            return r;
        }

        int and() {
            int r = cmp();
            while (eat('&')) {
                int b = cmp();
                r = r != 0 & b != 0 ? 1 : 0;
            }
            return r;
        }

        int cmp() {
            int r = sum();
            if (eat('<')) {
                return r < sum() ? 1 : 0;
            }
            if (eat('=')) {
                return r == sum() ? 1 : 0;
            }
            if (eat('>')) {
                return r > sum() ? 1 : 0;
            }
            return r;
        }

        int sum() {
            int r = product();
            while (true) {
                if (eat('+')) {
                    r += product();
                } else if (eat('-')) {
                    r -= product();
                } else {
                    return r;
                }
            }
        }

        int product() {
            int r = q();
            while (true) {
                if (eat('*')) {
                    r *= q();
                } else if (eat('/')) {
                    int b = q();
                    r = b == 0 ? 0 : (int) ((long) r / b);
                } else if (eat('%')) {
                    int b = q();
                    r = b == 0 ? 0 : (int) ((long) r % b);
                } else {
                    return r;
                }
            }
        }

        int q() {
            int start = at;
            while (at < s.length() && at - start < 4 && peek() >= '0' && peek() <= '9') {
                at++;
            }
            if (at > start) {
                return Integer.parseInt(s.substring(start, at));
            }
            for (int i = 0; i < 3; i++) {
                if (eat(names.charAt(i))) {
                    return v[i];
                }
            }
            if (open < 5 && eat('!')) {
                open++;
                int r = q() == 0 ? 1 : 0;
                open--;
                return r;
            }
            if (open < 5 && eat('(')) {
                open++;
                int r = or();
                if (!eat(')')) {
                    throw new Fault(at);
                }
                open--;
                return r;
            }
            throw new Fault(at);
        }
    }

    private static final String[] NAMES = {"wyh", "smo"};

    private static class Note {
        int n, m, snow, at, owner;
        List<Integer> trace;

        Note like(Note o) {
            n = o.n;
            m = o.m;
            snow = o.snow;
            at = o.at;
            owner = o.owner;
            return this;
        }

        int kind() {
            return 0;
        }

        int melting(int heat) {
            return heat;
        }

        int paying(Duchy d) {
            return snow;
        }

        int body(int b) {
            trace.add(b);
            return 0;
        }

        int falls(int x) {
            return body(10) + x + n;
        }

        int melts(int x) {
            return body(11) + falls(x) * 2;
        }

        int pays(int x) {
            return body(12) + x - m;
        }

        int rings(int x) {
            body(13);
            int a = melts(x);
            int b = pays(x);
            return a ^ b;
        }
    }

    private static class Ducal extends Note {
        @Override
        int kind() {
            return 1;
        }

        @Override
        int melting(int heat) {
            return heat / 2;
        }

        @Override
        int paying(Duchy d) {
            return 2 * snow;
        }

        @Override
        int falls(int x) {
            return body(20) + super.falls(x) * 3;
        }
    }

    private static class Forged extends Note {
        @Override
        int kind() {
            return 2;
        }

        @Override
        int melting(int heat) {
            return super.melting(heat) + 2;
        }

        @Override
        int paying(Duchy d) {
            return d.law(1, snow, m, owner) != 0 ? 0 : snow;
        }

        @Override
        int melts(int x) {
            body(30);
            int a = super.melts(x);
            return a - pays(1);
        }
    }

    private static class Bridal extends Note {
        @Override
        int kind() {
            return 3;
        }

        @Override
        int melting(int heat) {
            return super.melting(heat) - m;
        }

        @Override
        int paying(Duchy d) {
            return super.paying(d) + (snow > 0 ? m : 0);
        }

        @Override
        int pays(int x) {
            return body(40) - super.pays(x);
        }
    }

    private static final class Royal extends Ducal {
        @Override
        int kind() {
            return 4;
        }

        @Override
        int melting(int heat) {
            return super.melting(heat) - 1;
        }

        @Override
        int paying(Duchy d) {
            return super.paying(d) + (snow > 0 ? 5 : 0);
        }

        @Override
        int rings(int x) {
            body(50);
            int a = super.rings(x);
            return a - falls(2);
        }
    }

    private static final class Dirty extends Forged {
        @Override
        int kind() {
            return 5;
        }

        @Override
        int melting(int heat) {
            return super.melting(heat) * 2;
        }

        @Override
        int paying(Duchy d) {
            return super.paying(d) / 2;
        }

        @Override
        int melts(int x) {
            body(60);
            return super.melts(x + 1);
        }
    }

    private static final class Salted extends Bridal {
        @Override
        int kind() {
            return 6;
        }

        @Override
        int melting(int heat) {
            return super.melting(heat) + 9;
        }

        @Override
        int paying(Duchy d) {
            return snow;
        }

        @Override
        int pays(int x) {
            body(70);
            return super.pays(x) ^ n;
        }

        @Override
        int rings(int x) {
            body(71);
            int a = melts(x);
            return a - super.rings(x);
        }
    }

    private static Note made(int kind) {
        switch (kind) {
            case 1: return new Ducal();
            case 2: return new Forged();
            case 3: return new Bridal();
            case 4: return new Royal();
            case 5: return new Dirty();
            case 6: return new Salted();
            default: return new Note();
        }
    }

    private static Class<?> classOf(int kind) {
        return made(kind).getClass();
    }

    private static final class Duchy {
        List<Integer> warmth = new ArrayList<>();
        Map<List<Integer>, Integer> roads = new HashMap<>();
        List<Note> notes = new ArrayList<>();
        int weather = 2;
        int hour = 0;
        String tape = "";
        String[] texts = {null, null};
        int z = 1;
        List<Integer> waiting = new ArrayList<>();

        Duchy copy() {
            Duchy d = new Duchy();
            d.warmth.addAll(warmth);
            d.roads.putAll(roads);
            for (Note note : notes) {
                d.notes.add(made(note.kind()).like(note));
            }
            d.weather = weather;
            d.hour = hour;
            d.tape = tape;
            d.texts = texts.clone();
            d.z = z;
            d.waiting.addAll(waiting);
            return d;
        }

        int law(int use, int a, int b, int c) {
            String text = texts[use] != null ? texts[use] : use == 0 ? "w+y-3" : "s<5";
            int v = new Calc(text, NAMES[use], a, b, c).all();
            int most = use == 0 ? 99 : 1;
            return v < 0 ? 0 : v > most ? most : v;
        }

        int losing(Note note) {
            int v = note.melting(law(0, warmth.get(note.at), weather, hour % 24));
            return v < 0 ? 0 : v;
        }

        void hours(int n) {
            for (int i = 0; i < n; i++) {
                for (Note note : notes) {
                    note.snow = Math.max(0, note.snow - losing(note));
                }
                hour++;
            }
        }

        Duchy behind(int n) {
            Duchy d = copy();
            d.hours(n);
            return d;
        }

        int draw() {
            z = z * 1103515245 + 12345;
            return z >>> 8;
        }

        int snow() {
            int sum = 0;
            for (Note note : notes) {
                sum += note.snow;
            }
            return sum;
        }

        int worth(int owner) {
            int sum = 0;
            for (Note note : notes) {
                sum += note.owner == owner ? note.paying(this) : 0;
            }
            return sum;
        }

        int road(int a, int b) {
            return roads.getOrDefault(List.of(Math.min(a, b), Math.max(a, b)), 0);
        }

        void carry(int note, int place) {
            Note what = notes.get(note);
            what.snow = Math.max(0, what.snow - road(what.at, place) * losing(what));
            what.at = place;
        }
    }

    private static final class Model {
        Duchy d = new Duchy();
        Duchy image = null;
        int images = 0;
        int[] told = new int[6];
        List<Integer> trace = new ArrayList<>();
        int[] bits = new int[4];
        int[][] rows = new int[4][];

        int call(String name, long[] a) {
            try {
                return (int) answer(name, a);
            } catch (Refused r) {
                told[r.k]++;
                return -1000000000 - r.k;
            }
        }

        void needPlace(long p) {
            need(in(p, 0, d.warmth.size() - 1), 1);
        }

        Note needNote(long n) {
            need(in(n, 0, d.notes.size() - 1), 1);
            return d.notes.get((int) n);
        }

        void needSheet(long s) {
            need(in(s, 0, 3), 1);
        }

        long answer(String name, long[] a) {
            int p = a.length > 0 ? (int) a[0] : 0;
            int q = a.length > 1 ? (int) a[1] : 0;
            int r = a.length > 2 ? (int) a[2] : 0;
            int s = a.length > 3 ? (int) a[3] : 0;
            int t = a.length > 4 ? (int) a[4] : 0;
            switch (name) {
                case "place":
                    need(in(p, 0, 9), 1);
                    need(d.warmth.size() < 6, 4);
                    d.warmth.add(p);
                    return d.warmth.size() - 1;
                case "warm":
                    needPlace(p);
                    need(in(q, 0, 9), 1);
                    return d.warmth.set(p, q);
                case "ofPlace":
                    needPlace(p);
                    need(in(q, 0, 1), 1);
                    return q == 0 ? d.warmth.get(p) : notesAt(p);
                case "road":
                    needPlace(p);
                    needPlace(q);
                    need(p != q && in(r, 0, 9), 1);
                    int was = d.road(p, q);
                    d.roads.put(List.of(Math.min(p, q), Math.max(p, q)), r);
                    return was;
                case "note":
                    need(in(p, 0, 69) && in(q, 1, 999) && in(s, 0, 3), 1);
                    needPlace(r);
                    need(d.notes.size() < 10, 4);
                    Note fresh = made(p / 10);
                    fresh.n = d.notes.size();
                    fresh.m = p % 10;
                    fresh.snow = q;
                    fresh.at = r;
                    fresh.owner = s;
                    d.notes.add(fresh);
                    return fresh.n;
                case "ofNote": return ofNote(needNote(p), q);
                case "change": return change(needNote(p), q, r);
                case "become":
                    Note old = needNote(p);
                    need(in(q, 0, 69), 1);
                    d.notes.set(p, made(q / 10).like(old));
                    d.notes.get(p).m = q % 10;
                    return old.kind();
                case "as":
                    Note note = needNote(p);
                    need(in(q, 0, 6), 1);
                    need(classOf(q).isInstance(note), 5);
                    return note.m;
                case "weather":
                    need(in(p, 0, 9), 1);
                    int weather = d.weather;
                    d.weather = p;
                    return weather;
                case "feed":
                    need(in(q, 1, 8), 1);
                    need(d.tape.length() + q <= 50, 4);
                    for (int i = 0; i < q; i++) {
                        d.tape += (char) (a[0] >> 8 * i & 255);
                    }
                    return d.tape.length();
                case "text": return text(p);
                case "law":
                    need(in(p, 0, 1), 1);
                    return d.law(p, q, r, s);
                case "hours":
                    need(in(p, 1, 60), 1);
                    need(d.hour + p <= 9999, 3);
                    d.hours(p);
                    return d.snow();
                case "loose":
                    need(in(p, 1, 40), 1);
                    need(d.hour + p <= 9999, 3);
                    for (int i = 0; i < p; i++) {
                        d.weather = d.draw() % 10;
                        d.hours(1);
                    }
                    return d.snow();
                case "carry":
                    needNote(p);
                    needPlace(q);
                    need(d.road(d.notes.get(p).at, q) > 0, 3);
                    d.carry(p, q);
                    return d.notes.get(p).snow;
                default: return thought(name, p, q, r, s, t);
            }
        }

        int notesAt(int p) {
            int set = 0;
            for (Note note : d.notes) {
                set += note.at == p ? 1 << note.n : 0;
            }
            return set;
        }

        int ofNote(Note note, int what) {
            need(in(what, 0, 6), 1);
            int[] all = {note.kind(), note.m, note.snow, note.at, note.owner, d.losing(note), note.paying(d)};
            return all[what];
        }

        int change(Note note, int what, int v) {
            int was;
            switch (what) {
                case 0:
                    need(in(v, 0, 999), 1);
                    was = note.snow;
                    note.snow = v;
                    return was;
                case 1:
                    needPlace(v);
                    was = note.at;
                    note.at = v;
                    return was;
                default:
                    need(what == 2 && in(v, 0, 3), 1);
                    was = note.owner;
                    note.owner = v;
                    return was;
            }
        }

        int text(int use) {
            need(in(use, 0, 1), 1);
            String s = d.tape;
            d.tape = "";
            try {
                new Calc(s, NAMES[use], 1, 2, 3).all();
            } catch (Fault f) {
                return -10 - f.at;
            }
            d.texts[use] = s;
            return 1;
        }

        long thought(String name, int p, int q, int r, int s, int t) {
            switch (name) {
                case "then":
                    need(in(p, 0, 60) && in(r, 0, 1), 1);
                    needNote(q);
                    Duchy later = d.behind(p);
                    return r == 0 ? later.notes.get(q).snow : later.notes.get(q).paying(later);
                case "first": return first(p);
                case "worth":
                    need(in(p, 0, 3), 1);
                    return d.worth(p);
                case "keep": return keep(p, q, r);
                case "pay": return pay(p, q, r);
                case "lasts": return lasts(p, q);
                case "way":
                    needNote(p);
                    needPlace(q);
                    need(in(r, 0, 1), 1);
                    List<Integer> start = List.of(d.notes.get(p).at);
                    List<List<Integer>> ways = new ArrayList<>();
                    collect(start, q, ways);
                    return way(p, q, r, ways);
                case "forgers": return forgers(p, q);
                case "richest":
                    need(in(p, 0, 60) && in(q, 0, 1), 1);
                    Duchy rich = d.behind(p);
                    int best = 0;
                    for (int o = 1; o < 4; o++) {
                        best = rich.worth(o) > rich.worth(best) ? o : best;
                    }
                    return q == 0 ? best : rich.worth(best);
                case "warmer":
                    need(in(p, 0, 9) && in(q, 0, 60), 1);
                    Duchy warm = d.copy();
                    for (int i = 0; i < warm.warmth.size(); i++) {
                        warm.warmth.set(i, warm.warmth.get(i) + p);
                    }
                    warm.hours(q);
                    return warm.snow();
                case "odds": return odds(p, q, r);
                case "seed":
                    int z = d.z;
                    d.z = p;
                    return z;
                case "voice": return voice(p, q, r);
                case "trace":
                    need(in(p, 0, trace.size() - 1), 2);
                    return trace.get(p);
                default: return kept(name, p, q, r, s, t);
            }
        }

        int first(int what) {
            need(in(what, 0, 1), 1);
            Duchy later = d.copy();
            for (int n = 1; n <= 60; n++) {
                later.hours(1);
                for (Note note : later.notes) {
                    if (note.snow == 0 && d.notes.get(note.n).snow > 0) {
                        return what == 0 ? n : note.n;
                    }
                }
            }
            throw new Refused(2);
        }

        int keep(int p, int n, int what) {
            needNote(p);
            need(in(n, 0, 60) && in(what, 0, 1), 1);
            int best = -1;
            int most = -1;
            for (int place = 0; place < d.warmth.size(); place++) {
                Duchy later = d.copy();
                later.notes.get(p).at = place;
                later.hours(n);
                if (later.notes.get(p).snow > most) {
                    most = later.notes.get(p).snow;
                    best = place;
                }
            }
            return what == 0 ? best : most;
        }

        int pay(int owner, int v, int what) {
            need(in(owner, 0, 3) && in(v, 1, 9999) && in(what, 0, 1), 1);
            long[] best = null;
            for (int set = 0; set < 1 << d.notes.size(); set++) {
                int sum = 0;
                boolean own = true;
                for (Note note : d.notes) {
                    if ((set >> note.n & 1) == 1) {
                        own &= note.owner == owner;
                        sum += note.paying(d);
                    }
                }
                long[] one = {sum, Integer.bitCount(set), set};
                if (own && sum >= v && (best == null || Arrays.compare(one, best) < 0)) {
                    best = one;
                }
            }
            need(best != null, 2);
            return (int) (what == 0 ? best[2] : best[0]);
        }

        int lasts(int owner, int v) {
            need(in(owner, 0, 3) && in(v, 1, 9999), 1);
            need(d.worth(owner) >= v, 2);
            Duchy later = d.copy();
            for (int n = 1; n <= 60; n++) {
                later.hours(1);
                if (later.worth(owner) < v) {
                    return n - 1;
                }
            }
            return 60;
        }

        void collect(List<Integer> way, int aim, List<List<Integer>> ways) {
            int last = way.get(way.size() - 1);
            if (last == aim) {
                ways.add(way);
            }
            for (int to = d.warmth.size() - 1; to >= 0; to--) {
                if (d.road(last, to) > 0 && !way.contains(to)) {
                    List<Integer> more = new ArrayList<>(way);
                    more.add(to);
                    collect(more, aim, ways);
                }
            }
        }

        int way(int note, int aim, int what, List<List<Integer>> ways) {
            need(!ways.isEmpty(), 2);
            List<Integer> best = null;
            int most = -1;
            for (List<Integer> way : ways) {
                Duchy gone = d.copy();
                for (int i = 1; i < way.size(); i++) {
                    gone.carry(note, way.get(i));
                }
                int left = gone.notes.get(note).snow;
                if (left > most || left == most && way.toString().compareTo(best.toString()) < 0) {
                    most = left;
                    best = way;
                }
            }
            return what == 0 ? most : best.size() > 1 ? best.get(1) : aim;
        }

        int forgers(int sheet, int what) {
            needSheet(sheet);
            need(in(what, 0, 1), 1);
            int[] row = rows[sheet];
            int many = d.notes.size();
            need(row != null && many > 0 && row.length == many + 1 && in(row[many], 0, 60), 2);
            int least = 99;
            int set = 0;
            for (int i = 0; i < many; i++) {
                int can = 0;
                for (int kind = 0; kind <= 6; kind++) {
                    Duchy other = d.copy();
                    other.notes.set(i, made(kind).like(d.notes.get(i)));
                    other.hours(row[many]);
                    boolean fits = other.notes.get(i).snow == row[i];
                    can += fits ? 1 : 0;
                    set |= fits && Forged.class.isInstance(other.notes.get(i)) ? 1 << i : 0;
                }
                least = Math.min(least, can);
            }
            return what == 0 ? least : set;
        }

        int odds(int note, int n, int part) {
            needNote(note);
            need(in(n, 0, 60) && in(part, 0, 1), 1);
            int good = 0;
            for (int y = 0; y < 10; y++) {
                Duchy later = d.copy();
                later.weather = y;
                later.hours(n);
                good += later.notes.get(note).snow > 0 ? 1 : 0;
            }
            int[] above = {0, 1, 1, 3, 2, 1, 3, 7, 4, 9, 1};
            int[] below = {1, 10, 5, 10, 5, 2, 5, 10, 5, 10, 1};
            return part == 0 ? above[good] : below[good];
        }

        int voice(int p, int act, int x) {
            Note note = needNote(p);
            need(in(act, 0, 3), 1);
            trace = new ArrayList<>();
            note.trace = trace;
            return act == 0 ? note.falls(x) : act == 1 ? note.melts(x) : act == 2 ? note.pays(x) : note.rings(x);
        }

        long kept(String name, int p, int q, int r, int s, int t) {
            switch (name) {
                case "sheet":
                    needSheet(p);
                    need(q == 0 || q == 8 || q == 16 || q == 32, 1);
                    need(q == 0 || r >= 0, 3);
                    need(q == 0 || r <= 40, 1);
                    bits[p] = q;
                    rows[p] = q == 0 ? null : new int[r];
                    return 1;
                case "put":
                    needSheet(p);
                    need(rows[p] != null, 2);
                    need(in(q, 0, rows[p].length - 1), 1);
                    rows[p][q] = bits[p] == 8 ? r << 24 >> 24 : bits[p] == 16 ? r << 16 >> 16 : r;
                    return 1;
                case "move":
                    needSheet(p);
                    needSheet(r);
                    need(rows[p] != null && rows[r] != null, 2);
                    need(bits[p] == bits[r], 5);
                    need(q >= 0 && s >= 0 && t >= 0, 1);
                    need((long) q + t <= rows[p].length && (long) s + t <= rows[r].length, 1);
                    int[] was = rows[p].clone();
                    for (int i = 0; i < t; i++) {
                        rows[r][s + i] = was[q + i];
                    }
                    return t;
                case "snows":
                    needSheet(p);
                    need(rows[p] != null, 2);
                    int done = 0;
                    while (done < rows[p].length && done < d.notes.size() && in(rows[p][done], 0, 999)) {
                        d.notes.get(done).snow = rows[p][done];
                        done++;
                    }
                    return done;
                case "judge":
                    needSheet(p);
                    need(rows[p] != null, 2);
                    for (int i = 0; i < Math.max(rows[p].length, d.notes.size()); i++) {
                        if (i >= rows[p].length || i >= d.notes.size() || rows[p][i] != d.notes.get(i).paying(d)) {
                            return i;
                        }
                    }
                    return -1;
                case "image":
                    image = d.copy();
                    return ++images;
                case "restore":
                    need(image != null, 2);
                    d = image.copy();
                    return d.hour;
                case "tell":
                    need(d.waiting.size() < 20, 4);
                    d.waiting.add(p);
                    return d.waiting.size();
                case "check": return check();
                case "count": return count(p);
                case "told":
                    need(in(p, 1, 5), 1);
                    return told[p];
                default: throw new IllegalStateException(name);
            }
        }

        int check() {
            List<Integer> all = d.waiting;
            d.waiting = new ArrayList<>();
            for (int i = 0; i < all.size(); i++) {
                if (all.get(i) != d.behind(i + 1).snow()) {
                    return 1 + i;
                }
            }
            return 0;
        }

        int count(int what) {
            need(in(what, 0, 9), 1);
            int gone = 0;
            for (Note note : d.notes) {
                gone += note.snow == 0 ? 1 : 0;
            }
            int[] all = {d.warmth.size(), d.notes.size(), d.hour, d.weather, d.snow(), gone, d.tape.length(),
                d.waiting.size(), trace.size(), d.z};
            return all[what];
        }
    }

    // ---- the calls

    private static int real(SnowMoney x, String name, long[] l) {
        int[] a = new int[5];
        for (int i = 0; i < l.length; i++) {
            a[i] = (int) l[i];
        }
        switch (name) {
            case "place": return x.place(a[0]);
            case "warm": return x.warm(a[0], a[1]);
            case "ofPlace": return x.ofPlace(a[0], a[1]);
            case "road": return x.road(a[0], a[1], a[2]);
            case "note": return x.note(a[0], a[1], a[2], a[3]);
            case "ofNote": return x.ofNote(a[0], a[1]);
            case "change": return x.change(a[0], a[1], a[2]);
            case "become": return x.become(a[0], a[1]);
            case "as": return x.as(a[0], a[1]);
            case "weather": return x.weather(a[0]);
            case "feed": return x.feed(l[0], a[1]);
            case "text": return x.text(a[0]);
            case "law": return x.law(a[0], a[1], a[2], a[3]);
            case "hours": return x.hours(a[0]);
            case "loose": return x.loose(a[0]);
            case "carry": return x.carry(a[0], a[1]);
            case "then": return x.then(a[0], a[1], a[2]);
            case "first": return x.first(a[0]);
            case "worth": return x.worth(a[0]);
            case "keep": return x.keep(a[0], a[1], a[2]);
            case "pay": return x.pay(a[0], a[1], a[2]);
            case "lasts": return x.lasts(a[0], a[1]);
            case "way": return x.way(a[0], a[1], a[2]);
            case "forgers": return x.forgers(a[0], a[1]);
            case "richest": return x.richest(a[0], a[1]);
            case "warmer": return x.warmer(a[0], a[1]);
            case "odds": return x.odds(a[0], a[1], a[2]);
            case "seed": return x.seed(a[0]);
            case "voice": return x.voice(a[0], a[1], a[2]);
            case "trace": return x.trace(a[0]);
            case "sheet": return x.sheet(a[0], a[1], a[2]);
            case "put": return x.put(a[0], a[1], a[2]);
            case "move": return x.move(a[0], a[1], a[2], a[3], a[4]);
            case "snows": return x.snows(a[0]);
            case "judge": return x.judge(a[0]);
            case "image": return x.image();
            case "restore": return x.restore();
            case "tell": return x.tell(a[0]);
            case "check": return x.check();
            case "count": return x.count(a[0]);
            case "told": return x.told(a[0]);
            default: throw new IllegalStateException(name);
        }
    }

    /** Name, how often, and a sign for each argument: what it is drawn from. */
    private static final String[] CALLABLE = {
        "place 2 d", "warm 2 pd", "ofPlace 1 pb", "road 6 ppd", "note 6 ksPo", "ofNote 6 nS", "change 4 ncv",
        "become 4 nk", "as 2 nS", "weather 2 d", "feed 2 LF", "text 1 b", "law 3 bvvv", "hours 2 h", "loose 1 h",
        "carry 4 np", "then 4 hnb", "first 3 b", "worth 2 o", "keep 3 nhb", "pay 4 osb", "lasts 3 os", "way 5 npb",
        "forgers 2 tb", "richest 3 hb", "warmer 2 dh", "odds 3 nhb", "seed 1 i", "voice 4 noi", "trace 3 d",
        "sheet 2 tBD", "put 8 tDv", "move 3 tDtDD", "snows 1 t", "judge 3 t", "image 1", "restore 1", "tell 2 w",
        "check 1", "count 4 d", "told 1 d",
    };

    private static int drawn(char sign, Random random, Model model) {
        int odd = random.nextInt(40);
        if (odd == 0) {
            int[] wild = {-1, Integer.MIN_VALUE, Integer.MAX_VALUE, 10, 70, 1000, 61};
            return wild[random.nextInt(wild.length)];
        }
        int places = Math.max(1, model.d.warmth.size());
        int notes = Math.max(1, model.d.notes.size());
        switch (sign) {
            case 'p': return random.nextInt(places + (odd == 1 ? 1 : 0));
            case 'P': return random.nextInt(places);
            case 'n': return random.nextInt(notes + (odd == 1 ? 1 : 0));
            case 'd': return random.nextInt(odd == 1 ? 11 : 10);
            case 'D': return random.nextInt(random.nextBoolean() ? 4 : 13) - (odd == 1 ? 1 : 0);
            case 'b': return random.nextInt(odd == 1 ? 3 : 2);
            case 'c': return random.nextInt(odd == 1 ? 4 : 3);
            case 'o': return random.nextInt(odd == 1 ? 5 : 4);
            case 't': return random.nextInt(odd == 1 ? 5 : 4);
            case 'k': return random.nextInt(odd == 1 ? 72 : 70);
            case 's': return random.nextBoolean() ? random.nextInt(40) : random.nextInt(1002);
            case 'S': return random.nextInt(odd == 1 ? 9 : 7);
            case 'h': return random.nextBoolean() ? random.nextInt(6) : random.nextInt(63);
            case 'v': return random.nextBoolean() ? random.nextInt(10) : random.nextInt(1100) - 50;
            case 'B': return new int[] {8, 16, 32, 16, 32, 0, 7}[random.nextInt(7)];
            case 'F': return 1 + random.nextInt(8);
            default: return random.nextBoolean() ? random.nextInt(20) : random.nextInt();
        }
    }

    private static String textOf(Random random, String names, int deep) {
        int choice = random.nextInt(deep > 3 ? 2 : 12);
        switch (choice) {
            case 0: return "" + random.nextInt(random.nextBoolean() ? 10 : 10000);
            case 1: return "" + names.charAt(random.nextInt(3));
            case 2: return "!" + textOf(random, names, deep + 1);
            case 3: return "(" + textOf(random, names, deep + 1) + ")";
            default:
                char sign = "+-*/%<=>&|+-%/"
                    .charAt(random.nextInt(14));
                return textOf(random, names, deep + 1) + sign + textOf(random, names, deep + 1);
        }
    }

    /** A TEXT is fed whole, at times with one byte of another kind, and read. */
    private static int feedText(SnowMoney x, Model model, Random random, List<String> log) {
        int use = random.nextInt(2);
        StringBuilder s = new StringBuilder(textOf(random, NAMES[use], 0));
        if (random.nextInt(3) == 0) {
            s.setCharAt(random.nextInt(s.length()), "0123456789wyhsmo+-*/%<=>&|!() ".charAt(random.nextInt(30)));
        }
        int wrong = 0;
        for (int i = 0; i < s.length(); i += 8) {
            long word = 0;
            int n = Math.min(8, s.length() - i);
            for (int j = n - 1; j >= 0; j--) {
                word = word << 8 | s.charAt(i + j);
            }
            wrong += compare(x, model, "feed", new long[] {word, n}, log);
        }
        return wrong + compare(x, model, "text", new long[] {use}, log);
    }

    /** A SHEET gets what is true of the NOTES behind some HOURS, or what they pay, so that answers are not all alike. */
    private static int fillSheet(SnowMoney x, Model model, Random random, List<String> log) {
        boolean paid = random.nextBoolean();
        int many = model.d.notes.size();
        int n = random.nextInt(20);
        Duchy later = model.d.behind(n);
        int wrong = compare(x, model, "sheet", new long[] {0, 8 << random.nextInt(3), many + (paid ? 0 : 1)}, log);
        for (int i = 0; i < many; i++) {
            Note note = later.notes.get(i);
            int v = paid ? model.d.notes.get(i).paying(model.d) : note.snow;
            wrong += compare(x, model, "put", new long[] {0, i, v}, log);
        }
        if (!paid) {
            wrong += compare(x, model, "put", new long[] {0, many, n}, log);
            wrong += compare(x, model, "forgers", new long[] {0, 0}, log);
            return wrong + compare(x, model, "forgers", new long[] {0, 1}, log);
        }
        return wrong + compare(x, model, "judge", new long[] {0}, log);
    }

    private static int tellTruth(SnowMoney x, Model model, Random random, List<String> log) {
        int wrong = 0;
        int many = random.nextInt(21);
        for (int i = 0; i < many; i++) {
            int v = model.d.behind(i + 1).snow() + (random.nextInt(20) == 0 ? 1 : 0);
            wrong += compare(x, model, "tell", new long[] {v}, log);
        }
        return wrong + compare(x, model, "check", new long[0], log);
    }

    private static int compare(SnowMoney x, Model model, String name, long[] a, List<String> log) {
        int want = model.call(name, a);
        int got = real(x, name, a);
        log.add(name + Arrays.toString(a) + " -> " + got + (got == want ? "" : ", due is " + want));
        return got == want ? 0 : 1;
    }

    private static int run(int seed, String[] bag, Map<String, Integer> fine) {
        Random random = new Random(seed);
        SnowMoney x = new SnowMoney();
        Model model = new Model();
        List<String> log = new ArrayList<>();
        int many = random.nextInt(7);
        for (int i = 0; i < many; i++) {
            compare(x, model, "place", new long[] {random.nextInt(10)}, log);
        }
        int wrong = 0;
        while (log.size() < CALLS - 50 && wrong == 0) {
            int odd = random.nextInt(60);
            if (odd == 0) {
                wrong += feedText(x, model, random, log);
            } else if (odd == 1) {
                wrong += fillSheet(x, model, random, log);
            } else if (odd == 2 && model.d.waiting.isEmpty()) {
                wrong += tellTruth(x, model, random, log);
            } else {
                String[] call = bag[random.nextInt(bag.length)].split(" ");
                long[] a = new long[call.length > 2 ? call[2].length() : 0];
                for (int i = 0; i < a.length; i++) {
                    char sign = call[2].charAt(i);
                    a[i] = sign == 'L' ? random.nextLong() : drawn(sign, random, model);
                }
                wrong += compare(x, model, call[0], a, log);
                if (!log.get(log.size() - 1).contains("-100000000")) {
                    fine.merge(call[0], 1, Integer::sum);
                }
            }
        }
        if (wrong != 0) {
            System.out.println("run " + seed + ":");
            log.forEach(System.out::println);
        }
        return wrong;
    }

    public static void main(String[] args) {
        List<String> bag = new ArrayList<>();
        for (String call : CALLABLE) {
            for (int i = 0; i < Integer.parseInt(call.split(" ")[1]); i++) {
                bag.add(call);
            }
        }
        Map<String, Integer> fine = new HashMap<>();
        int wrong = 0;
        int runs = args.length > 0 ? Integer.parseInt(args[0]) : RUNS;
        for (int seed = 0; seed < runs && wrong == 0; seed++) {
            wrong += run(seed, bag.toArray(new String[0]), fine);
        }
        for (String call : CALLABLE) {
            String name = call.split(" ")[0];
            if (fine.getOrDefault(name, 0) < 10) {
                System.out.println(name + " was answered without an ERROR " + fine.getOrDefault(name, 0) + " times");
                wrong++;
            }
        }
        System.out.println(wrong == 0 ? runs + " runs agree" : "the two programs differ");
        if (wrong != 0) {
            System.exit(1);
        }
    }
}
