import java.util.Arrays;

/** Snow as paper money: notes that melt by the warmth of where they lie. README.md says how to use it. */
public final class SnowMoney {
    private static final int LOW = -1000000000;
    private static final int BEYOND = 1;
    private static final int NONE = 2;
    private static final int STATE = 3;
    private static final int FULL = 4;
    private static final int KIND = 5;

    private static final int MOST_SNOW = 999;
    private static final int MOST_KM = 69;
    private static final int MOST_OWNER = 3;
    private static final int MOST_SUM = 9999;
    private static final int LAST_HOUR = 9999;
    private static final int MOST_AHEAD = 60;
    private static final int MOST_LOOSE = 40;
    private static final int USES = 2;
    private static final int SHEETS = 4;
    private static final int FIRST_FAULT = -10;

    private final Duchy duchy;
    private final Duchy kept;
    private final Foresight foresight;
    private final Reader reader;
    private final Voices voices;
    private final Sheet[] rows;
    private final int[] errors;
    private int images;

    public SnowMoney() {
        duchy = new Duchy();
        kept = new Duchy();
        foresight = new Foresight(duchy);
        reader = new Reader();
        voices = new Voices();
        rows = new Sheet[SHEETS];
        for (int i = 0; i < rows.length; i++) {
            rows[i] = new Sheet();
        }
        errors = new int[KIND + 1];
    }

    // ---- places, notes

    public int place(int warmth) {
        if (!within(warmth, 0, 9)) {
            return error(BEYOND);
        }
        if (duchy.places >= Duchy.MOST_PLACES) {
            return error(FULL);
        }
        duchy.warmth[duchy.places] = warmth;
        duchy.places++;
        return duchy.places - 1;
    }

    public int warm(int place, int v) {
        if (!duchy.hasPlace(place) || !within(v, 0, 9)) {
            return error(BEYOND);
        }
        int was = duchy.warmth[place];
        duchy.warmth[place] = v;
        return was;
    }

    public int ofPlace(int place, int what) {
        if (!duchy.hasPlace(place) || !within(what, 0, 1)) {
            return error(BEYOND);
        }
        return what == 0 ? duchy.warmth[place] : duchy.notesAt(place);
    }

    public int road(int one, int other, int h) {
        if (!duchy.hasPlace(one) || !duchy.hasPlace(other) || one == other || !within(h, 0, 9)) {
            return error(BEYOND);
        }
        int was = duchy.roadBetween(one, other);
        duchy.setRoad(one, other, h);
        return was;
    }

    public int note(int km, int snow, int place, int owner) {
        if (!within(km, 0, MOST_KM) || !within(snow, 1, MOST_SNOW)
                || !duchy.hasPlace(place) || !within(owner, 0, MOST_OWNER)) {
            return error(BEYOND);
        }
        if (duchy.notes >= Duchy.MOST_NOTES) {
            return error(FULL);
        }
        int added = duchy.notes;
        duchy.kinds[added] = km / 10;
        duchy.ms[added] = km % 10;
        duchy.snow[added] = snow;
        duchy.at[added] = place;
        duchy.owners[added] = owner;
        duchy.notes++;
        return added;
    }

    public int ofNote(int note, int what) {
        if (!duchy.hasNote(note)) {
            return error(BEYOND);
        }
        switch (what) {
            case 0: return duchy.kinds[note];
            case 1: return duchy.ms[note];
            case 2: return duchy.snow[note];
            case 3: return duchy.at[note];
            case 4: return duchy.owners[note];
            case 5: return duchy.meltsNow(note, duchy.at[note]);
            case 6: return duchy.paysWith(note, duchy.snow[note]);
            default: return error(BEYOND);
        }
    }

    public int change(int note, int what, int v) {
        if (!duchy.hasNote(note)) {
            return error(BEYOND);
        }
        switch (what) {
            case 0: return within(v, 0, MOST_SNOW) ? swap(duchy.snow, note, v) : error(BEYOND);
            case 1: return duchy.hasPlace(v) ? swap(duchy.at, note, v) : error(BEYOND);
            case 2: return within(v, 0, MOST_OWNER) ? swap(duchy.owners, note, v) : error(BEYOND);
            default: return error(BEYOND);
        }
    }

    public int become(int note, int km) {
        if (!duchy.hasNote(note) || !within(km, 0, MOST_KM)) {
            return error(BEYOND);
        }
        int was = duchy.kinds[note];
        duchy.kinds[note] = km / 10;
        duchy.ms[note] = km % 10;
        return was;
    }

    public int as(int note, int kind) {
        if (!duchy.hasNote(note) || !within(kind, 0, Kinds.SALTED)) {
            return error(BEYOND);
        }
        return Kinds.isOf(duchy.kinds[note], kind) ? duchy.ms[note] : error(KIND);
    }

    public int weather(int v) {
        if (!within(v, 0, 9)) {
            return error(BEYOND);
        }
        int was = duchy.weather;
        duchy.weather = v;
        return was;
    }

    // ---- texts

    public int feed(long word, int n) {
        if (!within(n, 1, 8)) {
            return error(BEYOND);
        }
        if (duchy.taped + n > Duchy.MOST_TAPE) {
            return error(FULL);
        }
        for (int i = 0; i < n; i++) {
            duchy.tape[duchy.taped + i] = (int) (word >>> (8 * i)) & 255;
        }
        duchy.taped += n;
        return duchy.taped;
    }

    public int text(int use) {
        if (!within(use, 0, USES - 1)) {
            return error(BEYOND);
        }
        int fault = reader.read(duchy.tape, duchy.taped, use == 0 ? "wyh" : "smo");
        duchy.taped = 0;
        if (fault >= 0) {
            return FIRST_FAULT - fault;
        }
        Text used = use == 0 ? duchy.heat : duchy.found;
        used.take(reader.text);
        return 1;
    }

    public int law(int use, int a, int b, int c) {
        switch (use) {
            case 0: return duchy.heatBy(a, b, c);
            case 1: return duchy.foundBy(a, b, c);
            default: return error(BEYOND);
        }
    }

    // ---- hours, carrying

    public int hours(int n) {
        if (!within(n, 1, MOST_AHEAD)) {
            return error(BEYOND);
        }
        if (duchy.hour + n > LAST_HOUR) {
            return error(STATE);
        }
        pass(n);
        return duchy.snowOfAll();
    }

    public int loose(int n) {
        if (!within(n, 1, MOST_LOOSE)) {
            return error(BEYOND);
        }
        if (duchy.hour + n > LAST_HOUR) {
            return error(STATE);
        }
        for (int i = 0; i < n; i++) {
            duchy.weather = duchy.draw() % 10;
            pass(1);
        }
        return duchy.snowOfAll();
    }

    public int carry(int note, int place) {
        if (!duchy.hasNote(note) || !duchy.hasPlace(place)) {
            return error(BEYOND);
        }
        int from = duchy.at[note];
        int h = duchy.roadBetween(from, place);
        if (h == 0) {
            return error(STATE);
        }
        int lost = h * duchy.meltsNow(note, from);
        duchy.snow[note] = Math.max(0, duchy.snow[note] - lost);
        duchy.at[note] = place;
        return duchy.snow[note];
    }

    // ---- what would be

    public int then(int n, int note, int what) {
        if (!within(n, 0, MOST_AHEAD) || !duchy.hasNote(note) || !within(what, 0, 1)) {
            return error(BEYOND);
        }
        int left = foresight.leftBy(note, duchy.warmthAround(note), duchy.weather, n);
        return what == 0 ? left : duchy.paysWith(note, left);
    }

    public int first(int what) {
        if (!within(what, 0, 1)) {
            return error(BEYOND);
        }
        if (!foresight.findFirstGone()) {
            return error(NONE);
        }
        return what == 0 ? foresight.bestValue : foresight.bestNumber;
    }

    public int worth(int owner) {
        if (!within(owner, 0, MOST_OWNER)) {
            return error(BEYOND);
        }
        return foresight.worthBehind(owner, 0);
    }

    public int keep(int note, int n, int what) {
        if (!duchy.hasNote(note) || !within(n, 0, MOST_AHEAD) || !within(what, 0, 1)) {
            return error(BEYOND);
        }
        foresight.findColdest(note, n);
        return what == 0 ? foresight.bestNumber : foresight.bestValue;
    }

    public int pay(int owner, int v, int what) {
        if (!within(owner, 0, MOST_OWNER) || !within(v, 1, MOST_SUM) || !within(what, 0, 1)) {
            return error(BEYOND);
        }
        if (!foresight.findPayment(owner, v)) {
            return error(NONE);
        }
        return what == 0 ? foresight.bestNumber : foresight.bestValue;
    }

    public int lasts(int owner, int v) {
        if (!within(owner, 0, MOST_OWNER) || !within(v, 1, MOST_SUM)) {
            return error(BEYOND);
        }
        int last = foresight.lastHourWorth(owner, v);
        return last < 0 ? error(NONE) : last;
    }

    public int way(int note, int place, int what) {
        if (!duchy.hasNote(note) || !duchy.hasPlace(place) || !within(what, 0, 1)) {
            return error(BEYOND);
        }
        if (!foresight.findWay(note, place)) {
            return error(NONE);
        }
        return what == 0 ? foresight.bestValue : foresight.bestNumber;
    }

    public int forgers(int sheet, int what) {
        Sheet row = rowOf(sheet);
        if (row == null || !within(what, 0, 1)) {
            return error(BEYOND);
        }
        if (row.isMissing() || duchy.notes == 0 || row.length != duchy.notes + 1
                || !within(row.numberAt(duchy.notes), 0, MOST_AHEAD)) {
            return error(NONE);
        }
        foresight.findForged(row);
        return what == 0 ? foresight.bestValue : foresight.bestNumber;
    }

    public int richest(int n, int what) {
        if (!within(n, 0, MOST_AHEAD) || !within(what, 0, 1)) {
            return error(BEYOND);
        }
        foresight.findRichest(n, MOST_OWNER);
        return what == 0 ? foresight.bestNumber : foresight.bestValue;
    }

    public int warmer(int v, int n) {
        if (!within(v, 0, 9) || !within(n, 0, MOST_AHEAD)) {
            return error(BEYOND);
        }
        return foresight.leftOfAll(v, n);
    }

    public int odds(int note, int n, int part) {
        if (!duchy.hasNote(note) || !within(n, 0, MOST_AHEAD) || !within(part, 0, 1)) {
            return error(BEYOND);
        }
        int good = foresight.weathersThatLeave(note, n);
        int divisor = greatestDivisor(good, 10);
        return (part == 0 ? good : 10) / divisor;
    }

    // ---- draws, voices, sheets, images, what is told

    public int seed(int v) {
        int was = duchy.z;
        duchy.z = v;
        return was;
    }

    public int voice(int note, int act, int x) {
        if (!duchy.hasNote(note) || !within(act, 0, Voices.RINGS)) {
            return error(BEYOND);
        }
        return voices.begin(duchy.kinds[note], note, duchy.ms[note], act, x);
    }

    public int trace(int i) {
        return within(i, 0, voices.traced - 1) ? voices.bodies[i] : error(NONE);
    }

    public int sheet(int sheet, int bits, int n) {
        Sheet row = rowOf(sheet);
        if (row == null || (bits != 0 && bits != 8 && bits != 16 && bits != 32)) {
            return error(BEYOND);
        }
        if (bits != 0 && n < 0) {
            return error(STATE);
        }
        if (bits != 0 && n > Sheet.MOST) {
            return error(BEYOND);
        }
        row.makeAnew(bits, bits == 0 ? 0 : n);
        return 1;
    }

    public int put(int sheet, int i, int v) {
        Sheet row = rowOf(sheet);
        if (row == null) {
            return error(BEYOND);
        }
        if (row.isMissing()) {
            return error(NONE);
        }
        if (!within(i, 0, row.length - 1)) {
            return error(BEYOND);
        }
        row.numbers[i] = row.lowestBits(v);
        return 1;
    }

    public int move(int sheet, int i, int other, int j, int n) {
        Sheet from = rowOf(sheet);
        Sheet to = rowOf(other);
        if (from == null || to == null) {
            return error(BEYOND);
        }
        if (from.isMissing() || to.isMissing()) {
            return error(NONE);
        }
        if (from.bits != to.bits) {
            return error(KIND);
        }
        if (!from.hasRun(i, n) || !to.hasRun(j, n)) {
            return error(BEYOND);
        }
        System.arraycopy(from.numbers, i, to.numbers, j, n);
        return n;
    }

    public int snows(int sheet) {
        Sheet row = rowOf(sheet);
        if (row == null) {
            return error(BEYOND);
        }
        if (row.isMissing()) {
            return error(NONE);
        }
        int last = Math.min(row.length, duchy.notes);
        for (int i = 0; i < last; i++) {
            if (!within(row.numbers[i], 0, MOST_SNOW)) {
                return i;
            }
            duchy.snow[i] = row.numbers[i];
        }
        return last;
    }

    public int judge(int sheet) {
        Sheet row = rowOf(sheet);
        if (row == null) {
            return error(BEYOND);
        }
        if (row.isMissing()) {
            return error(NONE);
        }
        int both = Math.min(row.length, duchy.notes);
        for (int i = 0; i < both; i++) {
            if (row.numbers[i] != duchy.paysWith(i, duchy.snow[i])) {
                return i;
            }
        }
        return row.length == duchy.notes ? -1 : both;
    }

    public int image() {
        kept.take(duchy);
        images++;
        return images;
    }

    public int restore() {
        if (images == 0) {
            return error(NONE);
        }
        duchy.take(kept);
        return duchy.hour;
    }

    public int tell(int v) {
        if (duchy.waits >= Duchy.MOST_WAITING) {
            return error(FULL);
        }
        duchy.waiting[duchy.waits] = v;
        duchy.waits++;
        return duchy.waits;
    }

    public int check() {
        int wrong = foresight.firstWrongTold();
        duchy.waits = 0;
        return wrong + 1;
    }

    public int count(int what) {
        switch (what) {
            case 0: return duchy.places;
            case 1: return duchy.notes;
            case 2: return duchy.hour;
            case 3: return duchy.weather;
            case 4: return duchy.snowOfAll();
            case 5: return duchy.gone();
            case 6: return duchy.taped;
            case 7: return duchy.waits;
            case 8: return voices.traced;
            case 9: return duchy.z;
            default: return error(BEYOND);
        }
    }

    public int told(int k) {
        return within(k, BEYOND, KIND) ? errors[k] : error(BEYOND);
    }

    // ---- what the calls share

    /** The answer of an act that is refused, counted for told(). */
    private int error(int k) {
        if (within(k, BEYOND, KIND)) {
            errors[k]++;
        }
        return LOW - k;
    }

    private static boolean within(int v, int least, int most) {
        return v >= least && v <= most;
    }

    private static int swap(int[] row, int i, int v) {
        int was = row[i];
        row[i] = v;
        return was;
    }

    /** The SHEET of this number, or null where there is no such number. */
    private Sheet rowOf(int sheet) {
        return within(sheet, 0, rows.length - 1) ? rows[sheet] : null;
    }

    /** n HOURS, each note apart: no note changes what another one loses. */
    private void pass(int n) {
        for (int i = 0; i < duchy.notes; i++) {
            duchy.snow[i] = foresight.leftBy(i, duchy.warmthAround(i), duchy.weather, n);
        }
        duchy.hour += n;
    }

    /** Of a (0 to 10) and b (above 0); never 0, so that one can divide by it. */
    private static int greatestDivisor(int a, int b) {
        for (int d = b; d > 1; d--) {
            if (a % d == 0 && b % d == 0) {
                return d;
            }
        }
        return 1;
    }

    /** KINDS: what each melts and pays, and which stands under which. */
    private static final class Kinds {
        static final int DUCAL = 1;
        static final int FORGED = 2;
        static final int BRIDAL = 3;
        static final int ROYAL = 4;
        static final int DIRTY = 5;
        static final int SALTED = 6;
        static final int HOW_MANY = 7;

        private static final int[] ABOVE = {-1, 0, 0, 0, 1, 2, 3};

        private Kinds() {
        }

        /** The KIND above, -1 above the highest. */
        static int above(int kind) {
            return kind >= 0 && kind < ABOVE.length ? ABOVE[kind] : -1;
        }

        static boolean isOf(int kind, int top) {
            int k = kind;
            for (int i = 0; i < ABOVE.length && k >= 0; i++) {
                if (k == top) {
                    return true;
                }
                k = above(k);
            }
            return false;
        }

        static int melts(int kind, int m, int heat) {
            return Math.max(0, meltsBelowZeroToo(kind, m, heat));
        }

        private static int meltsBelowZeroToo(int kind, int m, int heat) {
            switch (kind) {
                case DUCAL: return heat / 2;
                case FORGED: return heat + 2;
                case BRIDAL: return heat - m;
                case ROYAL: return heat / 2 - 1;
                case DIRTY: return 2 * (heat + 2);
                case SALTED: return heat - m + 9;
                default: return heat;
            }
        }

        static int pays(int kind, int m, int snow, boolean foundOut) {
            switch (kind) {
                case DUCAL: return 2 * snow;
                case FORGED: return foundOut ? 0 : snow;
                case BRIDAL: return snow > 0 ? snow + m : 0;
                case ROYAL: return snow > 0 ? 2 * snow + 5 : 0;
                case DIRTY: return foundOut ? 0 : snow / 2;
                default: return snow;
            }
        }
    }

    /** The duchy as it is now: all that an IMAGE keeps. */
    private static final class Duchy {
        static final int MOST_PLACES = 6;
        static final int MOST_NOTES = 10;
        static final int MOST_TAPE = 50;
        static final int MOST_WAITING = 20;
        static final int DAY = 24;

        final int[] warmth = new int[MOST_PLACES];
        final int[] roads = new int[MOST_PLACES * MOST_PLACES];
        final int[] kinds = new int[MOST_NOTES];
        final int[] ms = new int[MOST_NOTES];
        final int[] snow = new int[MOST_NOTES];
        final int[] at = new int[MOST_NOTES];
        final int[] owners = new int[MOST_NOTES];
        final int[] tape = new int[MOST_TAPE];
        final int[] waiting = new int[MOST_WAITING];
        final Text heat = new Text();
        final Text found = new Text();
        int places;
        int notes;
        int weather = 2;
        int hour;
        int taped;
        int waits;
        int z = 1;

        void take(Duchy other) {
            System.arraycopy(other.warmth, 0, warmth, 0, MOST_PLACES);
            System.arraycopy(other.roads, 0, roads, 0, MOST_PLACES * MOST_PLACES);
            System.arraycopy(other.kinds, 0, kinds, 0, MOST_NOTES);
            System.arraycopy(other.ms, 0, ms, 0, MOST_NOTES);
            System.arraycopy(other.snow, 0, snow, 0, MOST_NOTES);
            System.arraycopy(other.at, 0, at, 0, MOST_NOTES);
            System.arraycopy(other.owners, 0, owners, 0, MOST_NOTES);
            System.arraycopy(other.tape, 0, tape, 0, MOST_TAPE);
            System.arraycopy(other.waiting, 0, waiting, 0, MOST_WAITING);
            heat.take(other.heat);
            found.take(other.found);
            places = other.places;
            notes = other.notes;
            weather = other.weather;
            hour = other.hour;
            taped = other.taped;
            waits = other.waits;
            z = other.z;
        }

        boolean hasPlace(int p) {
            return p >= 0 && p < places;
        }

        boolean hasNote(int i) {
            return i >= 0 && i < notes;
        }

        int warmthOf(int p) {
            return hasPlace(p) ? warmth[p] : 0;
        }

        /** WARMTH of the PLACE that a NOTE is AT. */
        int warmthAround(int i) {
            return hasNote(i) ? warmthOf(at[i]) : 0;
        }

        int notesAt(int p) {
            int set = 0;
            for (int i = 0; i < notes; i++) {
                if (at[i] == p) {
                    set |= 1 << i;
                }
            }
            return set;
        }

        /** HOURS of the ROAD between two, 0 where there is none. */
        int roadBetween(int one, int other) {
            return hasPlace(one) && hasPlace(other) ? roads[one * MOST_PLACES + other] : 0;
        }

        void setRoad(int one, int other, int h) {
            if (hasPlace(one) && hasPlace(other)) {
                roads[one * MOST_PLACES + other] = h;
                roads[other * MOST_PLACES + one] = h;
            }
        }

        /** What USE 0 gives. */
        int heatBy(int w, int y, int h) {
            int given = heat.isMissing() ? w + y - 3 : heat.valueWith(w, y, h);
            return Math.min(99, Math.max(0, given));
        }

        /** What USE 1 gives. */
        int foundBy(int s, int m, int o) {
            if (found.isMissing()) {
                return s < 5 ? 1 : 0;
            }
            return Math.min(1, Math.max(0, found.valueWith(s, m, o)));
        }

        /** What a NOTE would melt in this HOUR, did it lie at this PLACE. */
        int meltsNow(int i, int p) {
            if (!hasNote(i)) {
                return 0;
            }
            return Kinds.melts(kinds[i], ms[i], heatBy(warmthOf(p), weather, hour % DAY));
        }

        /** PAYS of a NOTE, had it so much SNOW. */
        int paysWith(int i, int s) {
            if (!hasNote(i)) {
                return 0;
            }
            boolean foundOut = Kinds.isOf(kinds[i], Kinds.FORGED) && foundBy(s, ms[i], owners[i]) != 0;
            return Kinds.pays(kinds[i], ms[i], s, foundOut);
        }

        int snowOfAll() {
            int sum = 0;
            for (int i = 0; i < notes; i++) {
                sum += snow[i];
            }
            return sum;
        }

        int gone() {
            int many = 0;
            for (int i = 0; i < notes; i++) {
                if (snow[i] == 0) {
                    many++;
                }
            }
            return many;
        }

        int draw() {
            z = z * 1103515245 + 12345;
            return z >>> 8;
        }
    }

    /** What would be: it reads the duchy and changes nothing in it. */
    private static final class Foresight {
        private final Duchy duchy;
        /** HEAT by the HOUR of the day, for the PLACE and WEATHER that is thought of. */
        private final int[] heats = new int[Duchy.DAY];
        /** SNOW of the NOTE that is thought of, behind 0, 1, .. HOURS. */
        private final int[] course = new int[MOST_AHEAD + 1];
        private final int[] totals = new int[MOST_AHEAD + 1];
        private final int[] sums = new int[1 << Duchy.MOST_NOTES];
        private final int[] steps = new int[Duchy.MOST_PLACES];
        private int aim;
        /** What the latest search found: how much, and a NOTE, PLACE, OWNER or set with it. */
        int bestValue;
        int bestNumber;

        Foresight(Duchy duchy) {
            this.duchy = duchy;
        }

        private void feel(int warmth, int weather, int n) {
            int many = Math.min(n, Duchy.DAY);
            for (int t = 0; t < many; t++) {
                int h = (duchy.hour + t) % Duchy.DAY;
                heats[h] = duchy.heatBy(warmth, weather, h);
            }
        }

        /** SNOW left behind n HOURS of the HEAT that was felt; the HOURS between stand in course. */
        private int melt(int kind, int m, int snow, int n) {
            int many = Math.min(n, MOST_AHEAD);
            int left = snow;
            course[0] = left;
            for (int t = 0; t < many; t++) {
                int h = (duchy.hour + t) % Duchy.DAY;
                left = Math.max(0, left - Kinds.melts(kind, m, heats[h]));
                course[t + 1] = left;
            }
            return left;
        }

        int leftBy(int note, int warmth, int weather, int n) {
            if (!duchy.hasNote(note)) {
                return 0;
            }
            feel(warmth, weather, n);
            return melt(duchy.kinds[note], duchy.ms[note], duchy.snow[note], n);
        }

        int leftOfAll(int more, int n) {
            int sum = 0;
            for (int i = 0; i < duchy.notes; i++) {
                sum += leftBy(i, duchy.warmthAround(i) + more, duchy.weather, n);
            }
            return sum;
        }

        int worthBehind(int owner, int n) {
            int sum = 0;
            for (int i = 0; i < duchy.notes; i++) {
                if (duchy.owners[i] == owner) {
                    int left = leftBy(i, duchy.warmthAround(i), duchy.weather, n);
                    sum += duchy.paysWith(i, left);
                }
            }
            return sum;
        }

        /** Finds the HOURS and the NOTE; false if none is gone by the last HOUR ahead. */
        boolean findFirstGone() {
            bestValue = MOST_AHEAD + 1;
            bestNumber = -1;
            for (int i = 0; i < duchy.notes; i++) {
                int hours = hoursUntilGone(i);
                if (hours < bestValue) {
                    bestValue = hours;
                    bestNumber = i;
                }
            }
            return bestNumber >= 0;
        }

        private int hoursUntilGone(int note) {
            int left = leftBy(note, duchy.warmthAround(note), duchy.weather, MOST_AHEAD);
            if (left > 0 || course[0] == 0) {
                return MOST_AHEAD + 1;
            }
            int n = 1;
            for (int t = 1; t < MOST_AHEAD && course[t] > 0; t++) {
                n = t + 1;
            }
            return n;
        }

        void findColdest(int note, int n) {
            bestValue = -1;
            bestNumber = 0;
            for (int p = 0; p < duchy.places; p++) {
                int left = leftBy(note, duchy.warmthOf(p), duchy.weather, n);
                if (left > bestValue) {
                    bestValue = left;
                    bestNumber = p;
                }
            }
        }

        /** Finds the set and its sum; false if all of the OWNER's do not pay v. */
        boolean findPayment(int owner, int v) {
            int owned = sumSets(owner);
            bestValue = 0;
            bestNumber = -1;
            for (int set = 0; set < 1 << duchy.notes; set++) {
                if ((set & ~owned) == 0 && sums[set] >= v && isBetterSet(set)) {
                    bestValue = sums[set];
                    bestNumber = set;
                }
            }
            return bestNumber >= 0;
        }

        private boolean isBetterSet(int set) {
            if (bestNumber < 0 || sums[set] < bestValue) {
                return true;
            }
            return sums[set] == bestValue && Integer.bitCount(set) < Integer.bitCount(bestNumber);
        }

        /** PAYS of every set of NOTES into sums; the answer is the set of the OWNER's. */
        private int sumSets(int owner) {
            int owned = 0;
            sums[0] = 0;
            for (int i = 0; i < duchy.notes; i++) {
                int half = 1 << i;
                int more = duchy.paysWith(i, duchy.snow[i]);
                if (duchy.owners[i] == owner) {
                    owned |= half;
                }
                for (int set = 0; set < half; set++) {
                    sums[half + set] = sums[set] + more;
                }
            }
            return owned;
        }

        /** -1 if WORTH is below v now. */
        int lastHourWorth(int owner, int v) {
            Arrays.fill(totals, 0);
            for (int i = 0; i < duchy.notes; i++) {
                if (duchy.owners[i] == owner) {
                    leftBy(i, duchy.warmthAround(i), duchy.weather, MOST_AHEAD);
                    for (int t = 0; t <= MOST_AHEAD; t++) {
                        totals[t] += duchy.paysWith(i, course[t]);
                    }
                }
            }
            int last = -1;
            for (int t = 0; t <= MOST_AHEAD && totals[t] >= v; t++) {
                last = t;
            }
            return last;
        }

        /** Finds what is left and the next PLACE; false if there is no way. */
        boolean findWay(int note, int place) {
            if (!duchy.hasNote(note)) {
                return false;
            }
            int from = duchy.at[note];
            aim = place;
            bestValue = -1;
            bestNumber = place;
            for (int p = 0; p < duchy.places; p++) {
                steps[p] = duchy.meltsNow(note, p);
            }
            if (from == place) {
                bestValue = duchy.snow[note];
            } else if (duchy.hasPlace(from)) {
                walk(from, duchy.snow[note], 1 << from, -1, 0);
            }
            return bestValue >= 0;
        }

        /** Ways are gone in the order of their PLACES, so the first of the best ones stays. */
        private void walk(int from, int snow, int been, int start, int deep) {
            if (from == aim) {
                if (snow > bestValue) {
                    bestValue = snow;
                    bestNumber = start;
                }
                return;
            }
            if (deep >= Duchy.MOST_PLACES) {
                return;
            }
            for (int to = 0; to < duchy.places; to++) {
                int h = duchy.roadBetween(from, to);
                if (h > 0 && (been & (1 << to)) == 0) {
                    int left = Math.max(0, snow - h * steps[from]);
                    walk(to, left, been | (1 << to), start < 0 ? to : start, deep + 1);
                }
            }
        }

        /** Finds the least number of KINDS, and the set of what can be forged. */
        void findForged(Sheet row) {
            int n = row.numberAt(duchy.notes);
            bestValue = Kinds.HOW_MANY;
            bestNumber = 0;
            for (int i = 0; i < duchy.notes; i++) {
                int fitting = kindsThatLeave(i, n, row.numberAt(i));
                bestValue = Math.min(bestValue, Integer.bitCount(fitting));
                if ((fitting & (1 << Kinds.FORGED | 1 << Kinds.DIRTY)) != 0) {
                    bestNumber |= 1 << i;
                }
            }
        }

        private int kindsThatLeave(int note, int n, int wanted) {
            if (!duchy.hasNote(note)) {
                return 0;
            }
            feel(duchy.warmthAround(note), duchy.weather, n);
            int fitting = 0;
            for (int kind = 0; kind < Kinds.HOW_MANY; kind++) {
                if (melt(kind, duchy.ms[note], duchy.snow[note], n) == wanted) {
                    fitting |= 1 << kind;
                }
            }
            return fitting;
        }

        void findRichest(int n, int lastOwner) {
            bestValue = -1;
            bestNumber = 0;
            for (int owner = 0; owner <= lastOwner; owner++) {
                int worth = worthBehind(owner, n);
                if (worth > bestValue) {
                    bestValue = worth;
                    bestNumber = owner;
                }
            }
        }

        int weathersThatLeave(int note, int n) {
            int many = 0;
            for (int y = 0; y <= 9; y++) {
                if (leftBy(note, duchy.warmthAround(note), y, n) > 0) {
                    many++;
                }
            }
            return many;
        }

        /** The place of the first number that waits and is wrong, -1 if all are right. */
        int firstWrongTold() {
            Arrays.fill(totals, 0);
            for (int i = 0; i < duchy.notes; i++) {
                leftBy(i, duchy.warmthAround(i), duchy.weather, duchy.waits);
                for (int t = 0; t <= duchy.waits; t++) {
                    totals[t] += course[t];
                }
            }
            for (int t = 0; t < duchy.waits; t++) {
                if (duchy.waiting[t] != totals[t + 1]) {
                    return t;
                }
            }
            return -1;
        }
    }

    /** A TEXT that was read: its signs, each behind what it works on. */
    private static final class Text {
        static final int MOST = 50;
        static final int NUMBER = 'n';
        static final int NAME = 'a';

        private final int[] signs = new int[MOST];
        private final int[] values = new int[MOST];
        private final int[] stack = new int[MOST];
        private int length;

        boolean isMissing() {
            return length == 0;
        }

        void clear() {
            length = 0;
        }

        void take(Text other) {
            System.arraycopy(other.signs, 0, signs, 0, MOST);
            System.arraycopy(other.values, 0, values, 0, MOST);
            length = other.length;
        }

        void add(int sign, int value) {
            if (length < MOST) {
                signs[length] = sign;
                values[length] = value;
                length++;
            }
        }

        int valueWith(int a, int b, int c) {
            int top = 0;
            for (int i = 0; i < length; i++) {
                int sign = signs[i];
                if (sign == NUMBER || sign == NAME) {
                    if (top < MOST) {
                        stack[top] = sign == NUMBER ? values[i] : named(values[i], a, b, c);
                        top++;
                    }
                } else if (sign == '!') {
                    if (top >= 1) {
                        stack[top - 1] = stack[top - 1] == 0 ? 1 : 0;
                    }
                } else if (top >= 2) {
                    stack[top - 2] = joined(sign, stack[top - 2], stack[top - 1]);
                    top--;
                }
            }
            return stack[0];
        }

        private static int named(int which, int a, int b, int c) {
            return which == 0 ? a : which == 1 ? b : c;
        }

        private static int joined(int sign, int a, int b) {
            switch (sign) {
                case '+': return a + b;
                case '-': return a - b;
                case '*': return a * b;
                case '/': return b == 0 ? 0 : a / b;
                case '%': return b == 0 ? 0 : a % b;
                case '<': return a < b ? 1 : 0;
                case '=': return a == b ? 1 : 0;
                case '>': return a > b ? 1 : 0;
                case '&': return a != 0 && b != 0 ? 1 : 0;
                case '|': return a != 0 || b != 0 ? 1 : 0;
                default: return 0;
            }
        }
    }

    /** Reads THE TAPE: a method for each line of the grammar. It stops at the FAULT's place. */
    private static final class Reader {
        private static final int MOST_OPEN = 5;
        private static final int MOST_DIGITS = 4;

        final Text text = new Text();
        private final int[] tape = new int[Duchy.MOST_TAPE];
        private int size;
        private int at;
        private String names = "";

        /** The FAULT, or -1 where there is none: then text holds what was read. */
        int read(int[] bytes, int n, String usedNames) {
            size = Math.max(0, Math.min(n, Math.min(bytes.length, tape.length)));
            System.arraycopy(bytes, 0, tape, 0, size);
            names = usedNames;
            at = 0;
            text.clear();
            return readOr(0) && at == size ? -1 : at;
        }

        /** The byte that comes next, -1 at the end. */
        private int next() {
            return at >= 0 && at < size ? tape[at] : -1;
        }

        private boolean readOr(int open) {
            boolean good = readAnd(open);
            for (int i = 0; i < size && good && next() == '|'; i++) {
                at++;
                good = readAnd(open);
                text.add('|', 0);
            }
            return good;
        }

        private boolean readAnd(int open) {
            boolean good = readComparison(open);
            for (int i = 0; i < size && good && next() == '&'; i++) {
                at++;
                good = readComparison(open);
                text.add('&', 0);
            }
            return good;
        }

        private boolean readComparison(int open) {
            if (!readSum(open)) {
                return false;
            }
            int sign = next();
            if (sign != '<' && sign != '=' && sign != '>') {
                return true;
            }
            at++;
            boolean good = readSum(open);
            text.add(sign, 0);
            return good;
        }

        private boolean readSum(int open) {
            boolean good = readProduct(open);
            for (int i = 0; i < size && good && (next() == '+' || next() == '-'); i++) {
                int sign = next();
                at++;
                good = readProduct(open);
                text.add(sign, 0);
            }
            return good;
        }

        private boolean readProduct(int open) {
            boolean good = readPart(open);
            for (int i = 0; i < size && good && (next() == '*' || next() == '/' || next() == '%'); i++) {
                int sign = next();
                at++;
                good = readPart(open);
                text.add(sign, 0);
            }
            return good;
        }

        private boolean readPart(int open) {
            int sign = next();
            if (isDigit(sign)) {
                readNumber();
                return true;
            }
            int name = sign < 0 ? -1 : names.indexOf((char) sign);
            if (name >= 0) {
                at++;
                text.add(Text.NAME, name);
                return true;
            }
            if ((sign != '!' && sign != '(') || open >= MOST_OPEN) {
                return false;
            }
            at++;
            return sign == '!' ? readDenied(open + 1) : readClosed(open + 1);
        }

        private boolean readDenied(int open) {
            boolean good = readPart(open);
            text.add('!', 0);
            return good;
        }

        private boolean readClosed(int open) {
            if (!readOr(open) || next() != ')') {
                return false;
            }
            at++;
            return true;
        }

        private void readNumber() {
            int number = 0;
            for (int i = 0; i < MOST_DIGITS && isDigit(next()); i++) {
                number = number * 10 + next() - '0';
                at++;
            }
            text.add(Text.NUMBER, number);
        }

        private static boolean isDigit(int sign) {
            return sign >= '0' && sign <= '9';
        }
    }

    /** VOICES, and THE TRACE of the latest one. */
    private static final class Voices {
        static final int FALLS = 0;
        static final int MELTS = 1;
        static final int PAYS = 2;
        static final int RINGS = 3;
        private static final int ACTS = 4;
        private static final int MOST_TRACED = 40;
        private static final int DEEPEST = 30;

        /** The BODY of each KIND for each act; 0 where the KIND above is asked. */
        private static final int[] BODIES = {
            10, 11, 12, 13,
            20, 0, 0, 0,
            0, 30, 0, 0,
            0, 0, 40, 0,
            0, 0, 0, 50,
            0, 60, 0, 0,
            0, 0, 70, 71,
        };

        final int[] bodies = new int[MOST_TRACED];
        int traced;
        private int kind;
        private int number;
        private int m;

        int begin(int kindOfNote, int numberOfNote, int mOfNote, int act, int x) {
            kind = kindOfNote;
            number = numberOfNote;
            m = mOfNote;
            traced = 0;
            return speak(kind, act, x, 0);
        }

        private static int bodyOf(int ofKind, int act) {
            int i = ofKind * ACTS + act;
            return i >= 0 && i < BODIES.length ? BODIES[i] : 0;
        }

        /** The BODY of this KIND, or of the next one above that has one, is worked out. */
        private int speak(int from, int act, int x, int deep) {
            if (deep > DEEPEST) {
                return 0;
            }
            int bearer = from;
            for (int i = 0; i < Kinds.HOW_MANY && bearer > 0 && bodyOf(bearer, act) == 0; i++) {
                bearer = Kinds.above(bearer);
            }
            int body = bodyOf(bearer, act);
            if (traced < MOST_TRACED) {
                bodies[traced] = body;
                traced++;
            }
            return work(body, Kinds.above(bearer), x, deep + 1);
        }

        /** What is told of super goes on from the KIND up; all else from the NOTE's own. */
        private int work(int body, int up, int x, int deep) {
            switch (body) {
                case 10: return x + number;
                case 11: return speak(kind, FALLS, x, deep) * 2;
                case 12: return x - m;
                case 13: return speak(kind, MELTS, x, deep) ^ speak(kind, PAYS, x, deep);
                case 20: return speak(up, FALLS, x, deep) * 3;
                case 30: return speak(up, MELTS, x, deep) - speak(kind, PAYS, 1, deep);
                case 40: return -speak(up, PAYS, x, deep);
                case 50: return speak(up, RINGS, x, deep) - speak(kind, FALLS, 2, deep);
                case 60: return speak(up, MELTS, x + 1, deep);
                case 70: return speak(up, PAYS, x, deep) ^ number;
                case 71: return speak(kind, MELTS, x, deep) - speak(up, RINGS, x, deep);
                default: return 0;
            }
        }
    }

    /** A SHEET: a row of numbers of 8, 16 or 32 bits, with their sign; 0 bits: it is missing. */
    private static final class Sheet {
        static final int MOST = 40;

        final int[] numbers = new int[MOST];
        int bits;
        int length;

        boolean isMissing() {
            return bits == 0;
        }

        void makeAnew(int ofBits, int n) {
            Arrays.fill(numbers, 0);
            bits = ofBits;
            length = Math.max(0, Math.min(n, MOST));
        }

        int numberAt(int i) {
            return i >= 0 && i < length ? numbers[i] : 0;
        }

        boolean hasRun(int i, int n) {
            return i >= 0 && n >= 0 && n <= length && i <= length - n;
        }

        int lowestBits(int v) {
            switch (bits) {
                case 8: return (byte) v;
                case 16: return (short) v;
                default: return v;
            }
        }
    }
}
