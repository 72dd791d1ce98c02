/** For each promise of the document: ordinary inputs, the edges that it names, and wrong inputs. */
public final class PromiseTest {
    private static final int BEYOND = -1000000001;
    private static final int NONE = -1000000002;
    private static final int STATE = -1000000003;
    private static final int FULL = -1000000004;
    private static final int KIND = -1000000005;
    private static final int MIN = Integer.MIN_VALUE;
    private static final int MAX = Integer.MAX_VALUE;
    private static int wrong = 0;

    private PromiseTest() {
    }

    private static void due(String what, int got, int want) {
        if (got != want) {
            wrong++;
            System.out.println(what + " answered " + got + ", due is " + want);
        }
    }

    /** A new object with so many PLACES of these WARMTHS. */
    private static SnowMoney places(int... warmths) {
        SnowMoney x = new SnowMoney();
        for (int w : warmths) {
            x.place(w);
        }
        return x;
    }

    private static void tape(SnowMoney x, String s) {
        for (int i = 0; i < s.length(); i++) {
            x.feed(s.charAt(i), 1);
        }
    }

    private static int text(SnowMoney x, int use, String s) {
        tape(x, s);
        return x.text(use);
    }

    /** What a TEXT of USE 0 gives with w 3, y 8, h 2, told by comparing, as the USE holds it within 0 to 99. */
    private static int value(String s) {
        SnowMoney x = new SnowMoney();
        return text(x, 0, s) == 1 ? x.law(0, 3, 8, 2) : -1;
    }

    private static int fault(String s) {
        return -10 - text(new SnowMoney(), 0, s);
    }

    private static void put(SnowMoney x, int sheet, int bits, int... numbers) {
        x.sheet(sheet, bits, numbers.length);
        for (int i = 0; i < numbers.length; i++) {
            x.put(sheet, i, numbers[i]);
        }
    }

    public static void main(String[] args) {
        newObject();
        placesAndRoads();
        notes();
        changes();
        kinds();
        payments();
        feeding();
        textValues();
        faults();
        laws();
        passing();
        drawing();
        carrying();
        thinking();
        firstGone();
        keeping();
        paying();
        lasting();
        ways();
        forging();
        richest();
        warmerAndOdds();
        voices();
        sheets();
        moving();
        snowsAndJudge();
        images();
        telling();
        counting();
        tellingErrors();
        System.out.println(wrong == 0 ? "every promise stands" : wrong + " answers are not as due");
        if (wrong != 0) {
            System.exit(1);
        }
    }

    private static void newObject() {
        SnowMoney x = new SnowMoney();
        int[] first = {0, 0, 0, 2, 0, 0, 0, 0, 0, 1};
        for (int what = 0; what <= 9; what++) {
            due("1: count(" + what + ")", x.count(what), first[what]);
        }
        for (int k = 1; k <= 5; k++) {
            due("1: told(" + k + ")", x.told(k), 0);
        }
        due("1: law(0, 4, 2, 0)", x.law(0, 4, 2, 0), 3);
        due("1: law(1, 4, 0, 0)", x.law(1, 4, 0, 0), 1);
        due("1: trace(0)", x.trace(0), NONE);
        due("1: restore()", x.restore(), NONE);
        due("1: judge(0)", x.judge(0), NONE);
    }

    private static void placesAndRoads() {
        SnowMoney x = new SnowMoney();
        due("2: place(-1)", x.place(-1), BEYOND);
        due("2: place(10)", x.place(10), BEYOND);
        for (int i = 0; i < 6; i++) {
            due("2: place " + i, x.place(i == 0 ? 0 : 9), i);
        }
        due("2: a seventh", x.place(3), FULL);
        due("2: a seventh, wrong", x.place(10), BEYOND);
        due("2: count", x.count(0), 6);

        due("3: warm", x.warm(1, 4), 9);
        due("3: warm again", x.warm(1, 0), 4);
        due("3: no place", x.warm(6, 0), BEYOND);
        due("3: place -1", x.warm(-1, 0), BEYOND);
        due("3: v 10", x.warm(1, 10), BEYOND);
        due("3: v -1", x.warm(1, -1), BEYOND);
        due("3: stays", x.ofPlace(1, 0), 0);

        x.note(0, 9, 2, 0);
        x.note(0, 9, 3, 0);
        x.note(0, 9, 2, 0);
        due("4: WARMTH", x.ofPlace(2, 0), 9);
        due("4: set", x.ofPlace(2, 1), 5);
        due("4: empty set", x.ofPlace(0, 1), 0);
        x.change(0, 0, 0);
        due("4: a GONE one lies there too", x.ofPlace(2, 1), 5);
        due("4: no place", x.ofPlace(6, 0), BEYOND);
        due("4: place -1", x.ofPlace(-1, 1), BEYOND);
        due("4: what 2", x.ofPlace(0, 2), BEYOND);
        due("4: what -1", x.ofPlace(0, -1), BEYOND);

        due("5: road", x.road(0, 5, 9), 0);
        due("5: both ways", x.road(5, 0, 1), 9);
        due("5: away", x.road(0, 5, 0), 1);
        due("5: none", x.road(0, 5, 2), 0);
        due("5: the same", x.road(3, 3, 1), BEYOND);
        due("5: no place", x.road(0, 6, 1), BEYOND);
        due("5: no place one", x.road(-1, 0, 1), BEYOND);
        due("5: h 10", x.road(0, 1, 10), BEYOND);
        due("5: h -1", x.road(0, 1, -1), BEYOND);
        due("5: stays", x.road(0, 1, 0), 0);
    }

    private static void notes() {
        SnowMoney x = places(4, 5);
        due("6: km -1", x.note(-1, 5, 0, 0), BEYOND);
        due("6: km 70", x.note(70, 5, 0, 0), BEYOND);
        due("6: snow 0", x.note(0, 0, 0, 0), BEYOND);
        due("6: snow 1000", x.note(0, 1000, 0, 0), BEYOND);
        due("6: place 2", x.note(0, 1, 2, 0), BEYOND);
        due("6: place -1", x.note(0, 1, -1, 0), BEYOND);
        due("6: owner 4", x.note(0, 1, 0, 4), BEYOND);
        due("6: owner -1", x.note(0, 1, 0, -1), BEYOND);
        due("6: note 0", x.note(69, 999, 1, 3), 0);
        due("6: note 1", x.note(0, 1, 0, 0), 1);
        for (int i = 2; i < 10; i++) {
            due("6: note " + i, x.note(15, 7, 0, 1), i);
        }
        due("6: an eleventh", x.note(0, 1, 0, 0), FULL);
        due("6: an eleventh, wrong", x.note(0, 1, 0, 4), BEYOND);
        int[] of = {6, 9, 999, 1, 3, 4, 999};
        for (int what = 0; what <= 6; what++) {
            due("7: what " + what, x.ofNote(0, what), of[what]);
        }
        due("7: what 7", x.ofNote(0, 7), BEYOND);
        due("7: what -1", x.ofNote(0, -1), BEYOND);
        due("7: note 10", x.ofNote(10, 0), BEYOND);
        due("7: note -1", x.ofNote(-1, 0), BEYOND);
        due("7: note MIN", x.ofNote(MIN, 0), BEYOND);
    }

    private static void changes() {
        SnowMoney x = places(4, 5);
        x.note(23, 50, 0, 1);
        due("8: SNOW", x.change(0, 0, 999), 50);
        due("8: SNOW 0", x.change(0, 0, 0), 999);
        due("8: SNOW 1000", x.change(0, 0, 1000), BEYOND);
        due("8: SNOW -1", x.change(0, 0, -1), BEYOND);
        due("8: AT", x.change(0, 1, 1), 0);
        due("8: AT 2", x.change(0, 1, 2), BEYOND);
        due("8: AT -1", x.change(0, 1, -1), BEYOND);
        due("8: OWNER", x.change(0, 2, 3), 1);
        due("8: OWNER 0", x.change(0, 2, 0), 3);
        due("8: OWNER 3", x.change(0, 2, 3), 0);
        due("8: OWNER 4", x.change(0, 2, 4), BEYOND);
        due("8: OWNER -1", x.change(0, 2, -1), BEYOND);
        due("8: what 3", x.change(0, 3, 0), BEYOND);
        due("8: what -1", x.change(0, -1, 0), BEYOND);
        due("8: note 1", x.change(1, 0, 0), BEYOND);
        due("8: SNOW stands", x.ofNote(0, 2), 0);
        due("8: AT stands", x.ofNote(0, 3), 1);
        due("8: OWNER stands", x.ofNote(0, 4), 3);

        due("9: become", x.become(0, 69), 2);
        due("9: KIND", x.ofNote(0, 0), 6);
        due("9: m", x.ofNote(0, 1), 9);
        due("9: km 70", x.become(0, 70), BEYOND);
        due("9: km -1", x.become(0, -1), BEYOND);
        due("9: note 1", x.become(1, 0), BEYOND);
        due("9: stays", x.become(0, 0), 6);

        int[] above = {-1, 0, 0, 0, 1, 2, 3};
        for (int kind = 0; kind <= 6; kind++) {
            x.become(0, 10 * kind + 7);
            for (int top = 0; top <= 6; top++) {
                boolean is = top == kind || top == 0 || top == above[kind];
                due("10: " + kind + " as " + top, x.as(0, top), is ? 7 : KIND);
            }
        }
        due("10: kind 7", x.as(0, 7), BEYOND);
        due("10: kind -1", x.as(0, -1), BEYOND);
        due("10: note 1", x.as(1, 0), BEYOND);
        due("10: note -1", x.as(-1, 9), BEYOND);

        due("11: weather", x.weather(9), 2);
        due("11: weather again", x.weather(0), 9);
        due("11: 10", x.weather(10), BEYOND);
        due("11: -1", x.weather(-1), BEYOND);
        due("11: stays", x.count(3), 0);
    }

    private static void kinds() {
        SnowMoney x = places(9, 0);
        x.weather(9);
        x.note(0, 50, 0, 0);
        int[] hot = {15, 7, 17, 8, 6, 34, 17};
        int[] cold = {0, 0, 2, 0, 0, 4, 2};
        for (int kind = 0; kind <= 6; kind++) {
            x.become(0, 10 * kind + 7);
            x.change(0, 1, 0);
            x.weather(9);
            due("7: hot, KIND " + kind, x.ofNote(0, 5), hot[kind]);
            x.change(0, 1, 1);
            x.weather(0);
            due("7: cold, KIND " + kind, x.ofNote(0, 5), cold[kind]);
        }
        // Below 0 counts between: BRIDAL's 0 - 9 and SALTED's 9 make 0; only the end is held at 0.
        x.become(0, 69);
        due("7: SALTED, m 9", x.ofNote(0, 5), 0);
        x.become(0, 63);
        due("7: SALTED, m 3", x.ofNote(0, 5), 6);
        text(x, 0, "h");
        x.become(0, 0);
        x.change(0, 0, 999);
        due("15: by HOURS of the day", x.hours(25), 999 - 276);
        due("7: h goes round", x.ofNote(0, 5), 1);
    }

    private static void payments() {
        SnowMoney x = places(0);
        x.note(37, 1, 0, 2);
        due("7: BRIDAL's PAYS of 1", x.ofNote(0, 6), 8);
        x.become(0, 47);
        due("7: ROYAL's PAYS of 1", x.ofNote(0, 6), 7);
        int[] five = {5, 10, 5, 12, 15, 2, 5};
        int[] four = {4, 8, 0, 11, 13, 0, 4};
        int[] none = {0, 0, 0, 0, 0, 0, 0};
        for (int kind = 0; kind <= 6; kind++) {
            x.become(0, 10 * kind + 7);
            x.change(0, 0, 5);
            due("7: PAYS of 5, KIND " + kind, x.ofNote(0, 6), five[kind]);
            x.change(0, 0, 4);
            due("7: PAYS of 4, KIND " + kind, x.ofNote(0, 6), four[kind]);
            x.change(0, 0, 0);
            due("7: PAYS of 0, KIND " + kind, x.ofNote(0, 6), none[kind]);
        }
        x.change(0, 0, 100);
        x.become(0, 27);
        text(x, 1, "s=100&m=7&o=2");
        due("7: FOUND by s, m, o", x.ofNote(0, 6), 0);
        x.change(0, 2, 1);
        due("7: not FOUND", x.ofNote(0, 6), 100);
        x.become(0, 51);
        due("7: DIRTY, not FOUND", x.ofNote(0, 6), 50);
    }

    private static void feeding() {
        SnowMoney x = new SnowMoney();
        due("12: n 0", x.feed(1, 0), BEYOND);
        due("12: n 9", x.feed(1, 9), BEYOND);
        due("12: n -1", x.feed(1, -1), BEYOND);
        due("12: lowest first", x.feed(0x2B77L | 0x7900000000L, 2), 2);
        due("12: then", x.feed('y', 1), 3);
        due("12: text", x.text(0), 1);
        due("12: value", x.law(0, 5, 6, 0), 11);
        due("12: eight bytes", x.feed(0x312B312B312B312BL, 8), 8);
        for (int i = 1; i < 6; i++) {
            x.feed(0x312B312B312B312BL, 8);
        }
        due("12: 48 stand", x.count(6), 48);
        due("12: 3 more don't fit", x.feed(0, 3), FULL);
        due("12: nothing came", x.count(6), 48);
        due("12: 2 fit", x.feed(0x3131, 2), 50);
        due("12: FULL", x.feed(0x31, 1), FULL);
        due("12: BEYOND first", x.feed(0x31, 9), BEYOND);
        SnowMoney y = new SnowMoney();
        y.feed(-1L, 8);
        due("12: bytes of 255 are no TEXT", y.text(0), -10);
    }

    private static void textValues() {
        due("13: number", value("42"), 42);
        due("13: leading 0", value("0042"), 42);
        due("13: NAMES", value("w*10+y+h*0"), 38);
        due("13: - goes from the left", value("50-20-10"), 20);
        due("13: / goes from the left", value("80/4/2"), 10);
        due("13: * ahead of +", value("2+3*4"), 14);
        due("13: ( )", value("(2+3)*4"), 20);
        due("13: %", value("47%10"), 7);
        due("13: / cut", value("50+(0-7)/2"), 47);
        due("13: % of what is below 0", value("50+(0-7)%4"), 47);
        due("13: / by 0", value("5+7/0"), 5);
        due("13: % by 0", value("5+7%0"), 5);
        due("13: <", value("(w<y)+2*(y<w)+4*(w<w)"), 1);
        due("13: =", value("(w=y)+2*(w=3)"), 2);
        due("13: >", value("(w>y)+2*(y>w)+4*(w>w)"), 2);
        due("13: & of true ones is 1", value("(2&4)+2*(2&0)+4*(0&3)+8*(1&1)"), 9);
        due("13: | of true ones is 1", value("(2|4)+2*(0|3)+4*(0|0)"), 3);
        due("13: & ahead of |", value("1|1&0"), 1);
        due("13: < ahead of &", value("2&1<2"), 1);
        due("13: + ahead of <", value("1+1<2"), 0);
        due("13: !", value("!0+!5*2+!!7"), 2);
        due("13: ! of what is next alone", value("!0*5"), 5);
        due("13: ints wrap", value("9999*9999*9999*9999/9999/9999/9999<9999"), 1);
        due("13: MIN / -1 wraps", value("(8192*8192*32)/(0-1)<0"), 1);
        due("13: MIN % -1", value("5+(8192*8192*32)%(0-1)"), 5);
        due("13: five open", value("(((((7)))))"), 7);
        due("13: five open, !", value("!!!!!7"), 0);
        due("13: open ones close", value("!!!!!7+!!!!!0"), 1);
        due("13: 50 bytes", value("1+1+1+1+1+1+1+1+1+1+1+1+1+1+1+1+1+1+1+1+1+1+1+1+10"), 34);

        SnowMoney x = new SnowMoney();
        tape(x, "7");
        due("13: use 2", x.text(2), BEYOND);
        due("13: use -1", x.text(-1), BEYOND);
        due("13: THE TAPE stays", x.count(6), 1);
        due("13: a TEXT", x.text(0), 1);
        due("13: THE TAPE is empty", x.count(6), 0);
        due("13: it stands", x.law(0, 0, 0, 0), 7);
        due("13: a FAULT", text(x, 0, "8+"), -12);
        due("13: THE TAPE is empty, too", x.count(6), 0);
        due("13: the one ahead stays", x.law(0, 0, 0, 0), 7);
        due("13: in place of it", text(x, 0, "9"), 1);
        due("13: it stands now", x.law(0, 0, 0, 0), 9);
        due("13: the other USE", x.law(1, 4, 0, 0), 1);
        due("13: a FAULT is no ERROR", x.told(1) + x.told(2) + x.told(3) + x.told(4) + x.told(5), 2);
    }

    private static void faults() {
        due("13: empty", fault(""), 0);
        due("13: early end", fault("1+"), 2);
        due("13: early end in ( )", fault("(1"), 2);
        due("13: ( ) of nothing", fault("()"), 1);
        due("13: ) too many", fault("1)"), 1);
        due("13: five digits", fault("12345"), 4);
        due("13: a blank", fault("1 +1"), 1);
        due("13: a NAME of the other USE", fault("1+s"), 2);
        due("13: two NAMES", fault("wy"), 1);
        due("13: a number behind a NAME", fault("w1"), 1);
        due("13: a NAME behind a number", fault("1w"), 1);
        due("13: two comparisons", fault("1<2<3"), 3);
        due("13: two comparisons, =", fault("1=2>3"), 3);
        due("13: comparisons side by side", fault("1<2&3<4|5=6"), -11);
        due("13: a sign first", fault("-1"), 0);
        due("13: two signs", fault("1--1"), 2);
        due("13: six (", fault("((((((1))))))"), 5);
        due("13: six !", fault("!!!!!!1"), 5);
        due("13: six of both", fault("(!(!((1))))"), 5);
        due("13: five of both", fault("(!(!(1)))"), -11);
        due("13: ! closes with its Q", fault("(!1+!(!(1)))"), -11);
        due("13: byte 0", fault("1\0"), 1);
        due("13: USE 1", text(new SnowMoney(), 1, "s+m+o+w"), -16);
    }

    private static void laws() {
        SnowMoney x = new SnowMoney();
        due("14: USE 0 is w+y-3", x.law(0, 5, 6, 77), 8);
        due("14: held at 0", x.law(0, 1, 1, 0), 0);
        due("14: held at 99", x.law(0, 100, 3, 0), 99);
        due("14: wraps", x.law(0, MAX, 4, 0), 0);
        due("14: USE 1 is s<5", x.law(1, 5, 0, 0), 0);
        due("14: USE 1, MIN", x.law(1, MIN, 0, 0), 1);
        due("14: use 2", x.law(2, 0, 0, 0), BEYOND);
        due("14: use -1", x.law(-1, 0, 0, 0), BEYOND);
        text(x, 0, "w*100+y*10+h-400");
        due("14: in order", x.law(0, 4, 5, 6), 56);
        text(x, 1, "s*100+m*10+o-455");
        due("14: USE 1 in order", x.law(1, 4, 5, 6), 1);
        due("14: USE 1 held at 1", x.law(1, 9, 5, 6), 1);
        due("14: USE 1 held at 0", x.law(1, 4, 5, 4), 0);
    }

    private static void passing() {
        SnowMoney x = places(3, 5);
        x.note(0, 10, 0, 0);
        x.note(14, 30, 1, 0);
        due("15: n 0", x.hours(0), BEYOND);
        due("15: n 61", x.hours(61), BEYOND);
        due("15: n -1", x.hours(-1), BEYOND);
        due("15: one", x.hours(1), 8 + 28);
        due("15: three", x.hours(3), 2 + 22);
        due("15: HOUR", x.count(2), 4);
        due("15: 0 at least", x.hours(2), 0 + 18);
        due("15: sixty", x.hours(60), 0);
        for (int i = 0; i < 165; i++) {
            x.hours(60);
        }
        due("15: HOUR 9966", x.count(2), 9966);
        due("15: above 9999", x.hours(34), STATE);
        due("15: BEYOND ahead of STATE", x.hours(61), BEYOND);
        due("16: above 9999", x.loose(34), STATE);
        due("15: up to 9999", x.hours(33), 0);
        due("15: HOUR 9999", x.count(2), 9999);
        due("15: no more", x.hours(1), STATE);
        due("16: no more", x.loose(1), STATE);
        due("16: z stays", x.count(9), 1);
        SnowMoney y = places(3);
        for (int i = 0; i < 166; i++) {
            y.hours(60);
        }
        due("16: up to 9999", y.loose(39), 0);
        due("16: HOUR 9999", y.count(2), 9999);
        x.change(0, 0, 100);
        due("18: HOUR beyond 9999", x.then(2, 0, 0), 96);
    }

    private static void drawing() {
        SnowMoney x = places(3);
        x.note(0, 999, 0, 0);
        due("16: n 0", x.loose(0), BEYOND);
        due("16: n 41", x.loose(41), BEYOND);
        due("16: z stays", x.count(9), 1);
        int z = 1;
        int snow = 999;
        for (int i = 0; i < 40; i++) {
            z = z * 1103515245 + 12345;
            snow = Math.max(0, snow - (z >>> 8) % 10);
        }
        due("16: forty", x.loose(40), snow);
        due("16: z", x.count(9), z);
        due("16: WEATHER", x.count(3), (z >>> 8) % 10);
        due("16: HOUR", x.count(2), 40);
        due("29: seed", x.seed(-7), z);
        due("29: it stands", x.count(9), -7);
        z = -7 * 1103515245 + 12345;
        due("29: it draws", x.loose(1), snow - (z >>> 8) % 10);
        due("29: MIN", x.seed(MIN), z);
        due("29: no ERROR", x.seed(BEYOND), MIN);
        due("29: no ERROR either", x.seed(1), BEYOND);
        due("29: none told", x.told(1), 2);
    }

    private static void carrying() {
        SnowMoney x = places(5, 9, 0);
        x.note(0, 30, 0, 0);
        x.road(0, 1, 3);
        due("17: no ROAD", x.carry(0, 2), STATE);
        due("17: it is AT it", x.carry(0, 0), STATE);
        due("17: no place", x.carry(0, 3), BEYOND);
        due("17: place -1", x.carry(0, -1), BEYOND);
        due("17: no note", x.carry(1, 0), BEYOND);
        due("17: as it lies now", x.carry(0, 1), 30 - 3 * 4);
        due("17: AT", x.ofNote(0, 3), 1);
        due("17: HOUR stays", x.count(2), 0);
        due("17: 0 at least", x.carry(0, 0), 0);
        due("17: back", x.ofNote(0, 3), 0);
        due("17: GONE ones too", x.carry(0, 1), 0);
    }

    private static void thinking() {
        SnowMoney x = places(5);
        x.note(37, 30, 0, 0);
        x.note(27, 30, 0, 1);
        due("18: 0 HOURS", x.then(0, 0, 0), 30);
        due("18: melts nothing", x.then(60, 0, 0), 30);
        due("18: SNOW", x.then(4, 1, 0), 6);
        due("18: PAYS", x.then(4, 1, 1), 6);
        due("18: found out then", x.then(5, 1, 1), 0);
        due("18: PAYS with m", x.then(9, 0, 1), 37);
        due("18: only thought", x.count(4), 60);
        due("18: HOUR stays", x.count(2), 0);
        due("18: n -1", x.then(-1, 0, 0), BEYOND);
        due("18: n 61", x.then(61, 0, 0), BEYOND);
        due("18: note 2", x.then(0, 2, 0), BEYOND);
        due("18: what 2", x.then(0, 0, 2), BEYOND);
        due("18: what -1", x.then(0, 0, -1), BEYOND);

        due("20: WORTH", x.worth(0), 37);
        due("20: of one", x.worth(1), 30);
        due("20: of none", x.worth(3), 0);
        due("20: owner 4", x.worth(4), BEYOND);
        due("20: owner -1", x.worth(-1), BEYOND);
    }

    private static void firstGone() {
        SnowMoney x = places(5, 1);
        due("19: no notes", x.first(0), NONE);
        x.note(0, 12, 0, 0);
        x.note(0, 10, 0, 0);
        x.note(0, 9, 0, 0);
        x.note(0, 5, 0, 0);
        due("19: HOURS", x.first(0), 2);
        due("19: NOTE", x.first(1), 3);
        x.change(3, 0, 4);
        due("19: behind 1", x.first(0), 1);
        x.change(3, 0, 0);
        due("19: it has SNOW now", x.first(0), 3);
        due("19: the least", x.first(1), 0);
        x.change(0, 0, 240);
        x.change(1, 0, 239);
        x.change(2, 1, 1);
        due("19: 60", x.first(0), 60);
        due("19: which", x.first(1), 0);
        x.change(0, 0, 241);
        due("19: 60, the other", x.first(1), 1);
        x.change(1, 0, 241);
        due("19: not by 60", x.first(0), NONE);
        due("19: not by 60, which", x.first(1), NONE);
        due("19: what 2", x.first(2), BEYOND);
        due("19: what -1", x.first(-1), BEYOND);
    }

    private static void keeping() {
        SnowMoney x = places(9, 4, 3, 3);
        x.note(0, 30, 0, 0);
        due("21: of several the least", x.keep(0, 5, 0), 2);
        due("21: SNOW", x.keep(0, 5, 1), 20);
        due("21: behind 0 HOURS", x.keep(0, 0, 0), 0);
        due("21: gone at all", x.keep(0, 60, 0), 0);
        due("21: gone at all, SNOW", x.keep(0, 60, 1), 0);
        due("21: it stays", x.ofNote(0, 3), 0);
        due("21: note 1", x.keep(1, 5, 0), BEYOND);
        due("21: n 61", x.keep(0, 61, 0), BEYOND);
        due("21: n -1", x.keep(0, -1, 0), BEYOND);
        due("21: what 2", x.keep(0, 5, 2), BEYOND);
    }

    private static void paying() {
        SnowMoney x = places(3);
        int[] snows = {8, 5, 3, 5, 10};
        for (int s : snows) {
            x.note(0, s, 0, 1);
        }
        x.note(0, 9, 0, 2);
        due("22: exact, fewest", x.pay(1, 10, 0), 16);
        due("22: of several the least", x.pay(1, 5, 0), 2);
        due("22: fewest, then least", x.pay(1, 13, 0), 3);
        due("22: least above", x.pay(1, 9, 1), 10);
        due("22: least above, set", x.pay(1, 9, 0), 16);
        due("22: all", x.pay(1, 31, 0), 31);
        due("22: not by all", x.pay(1, 32, 0), NONE);
        due("22: the other OWNER", x.pay(2, 1, 0), 32);
        due("22: PAYS", x.pay(2, 1, 1), 9);
        due("22: no NOTES", x.pay(0, 1, 1), NONE);
        x.note(20, 4, 0, 2);
        due("22: what is found out pays nothing", x.pay(2, 10, 0), NONE);
        due("22: v 0", x.pay(1, 0, 0), BEYOND);
        due("22: v 10000", x.pay(1, 10000, 0), BEYOND);
        due("22: v 9999", x.pay(1, 9999, 0), NONE);
        due("22: owner 4", x.pay(4, 1, 0), BEYOND);
        due("22: owner -1", x.pay(-1, 1, 0), BEYOND);
        due("22: what 2", x.pay(1, 1, 2), BEYOND);
    }

    private static void lasting() {
        SnowMoney x = places(5);
        x.note(0, 40, 0, 1);
        x.note(10, 40, 0, 1);
        due("23: now alone", x.lasts(1, 120), 0);
        due("23: some", x.lasts(1, 104), 2);
        due("23: some more", x.lasts(1, 96), 3);
        due("23: to the last", x.lasts(1, 1), 19);
        due("23: WORTH is less now", x.lasts(1, 121), NONE);
        due("23: no NOTES", x.lasts(0, 1), NONE);
        x.note(37, 5, 0, 2);
        due("23: 60", x.lasts(2, 12), 60);
        due("23: owner 4", x.lasts(4, 1), BEYOND);
        due("23: owner -1", x.lasts(-1, 1), BEYOND);
        due("23: v 0", x.lasts(1, 0), BEYOND);
        due("23: v 10000", x.lasts(1, 10000), BEYOND);
        SnowMoney y = places(5);
        y.note(20, 60, 0, 0);
        text(y, 1, "s=48");
        due("23: behind each of 0, 1, .. HOURS", y.lasts(0, 10), 1);
    }

    private static void ways() {
        SnowMoney x = places(4, 9, 2, 4);
        x.note(0, 90, 0, 0);
        due("24: no way", x.way(0, 3, 0), NONE);
        x.road(0, 1, 1);
        x.road(1, 3, 2);
        x.road(0, 2, 2);
        x.road(2, 3, 9);
        due("24: by the best way", x.way(0, 3, 0), 90 - 2 * 3 - 9);
        due("24: next", x.way(0, 3, 1), 2);
        x.road(0, 3, 5);
        due("24: of several the first", x.way(0, 3, 1), 2);
        x.road(2, 1, 1);
        due("24: on it by 2", x.way(0, 1, 1), 1);
        due("24: there already", x.way(0, 0, 0), 90);
        due("24: there already, next", x.way(0, 0, 1), 0);
        x.change(0, 0, 1);
        due("24: all melts, the first by the numbers", x.way(0, 3, 1), 1);
        due("24: all melts", x.way(0, 3, 0), 0);
        due("24: note 1", x.way(1, 0, 0), BEYOND);
        due("24: place 4", x.way(0, 4, 0), BEYOND);
        due("24: place -1", x.way(0, -1, 0), BEYOND);
        due("24: what 2", x.way(0, 3, 2), BEYOND);
        due("24: it lies still", x.ofNote(0, 3), 0);
        SnowMoney y = places(0, 0, 0, 0, 0, 0);
        y.note(0, 50, 1, 0);
        y.road(1, 0, 1);
        y.road(1, 2, 1);
        due("24: each PLACE once at most", y.way(0, 2, 1), 2);
        due("24: to PLACE 0", y.way(0, 0, 1), 0);
        y.road(1, 2, 0);
        y.road(0, 2, 1);
        y.road(2, 5, 1);
        due("24: next is 0, all along the way", y.way(0, 5, 1), 0);
        due("24: nothing melts", y.way(0, 5, 0), 50);
    }

    private static void forging() {
        SnowMoney x = places(5);
        put(x, 0, 32, 0);
        due("25: no NOTES", x.forgers(0, 0), NONE);
        x.note(4, 60, 0, 0);
        x.note(35, 60, 0, 0);
        due("25: one number too few", x.forgers(0, 0), NONE);
        due("25: missing", x.forgers(1, 0), NONE);
        // behind 3 HOURS at HEAT 4: 48 NOTE, 54 DUCAL, 42 FORGED, 60 BRIDAL, 57 ROYAL, 24 DIRTY, 33 or 36 SALTED
        put(x, 0, 16, 48, 42, 3);
        due("25: least", x.forgers(0, 0), 1);
        due("25: set", x.forgers(0, 1), 2);
        put(x, 0, 16, 60, 60, 3);
        due("25: BRIDAL both", x.forgers(0, 0), 1);
        due("25: none forged", x.forgers(0, 1), 0);
        put(x, 0, 16, 24, 42, 3);
        due("25: DIRTY is under FORGED", x.forgers(0, 1), 3);
        put(x, 0, 16, 60, 60, 0);
        due("25: behind 0 HOURS all", x.forgers(0, 0), 7);
        due("25: behind 0 HOURS all forged", x.forgers(0, 1), 3);
        put(x, 0, 16, 0, 0, 60);
        due("25: behind 60 HOURS", x.forgers(0, 0), 6);
        put(x, 0, 16, 1, 0, 60);
        due("25: none", x.forgers(0, 0), 0);
        put(x, 0, 16, 0, 0, 61);
        due("25: 61", x.forgers(0, 0), NONE);
        put(x, 0, 16, 0, 0, -1);
        due("25: -1", x.forgers(0, 0), NONE);
        put(x, 0, 16, 0, 0, 0, 0);
        due("25: too many", x.forgers(0, 0), NONE);
        due("25: sheet 4", x.forgers(4, 0), BEYOND);
        due("25: sheet -1", x.forgers(-1, 0), BEYOND);
        due("25: what 2", x.forgers(1, 2), BEYOND);
        due("25: KINDS stay", x.ofNote(1, 0), 3);
    }

    private static void richest() {
        SnowMoney x = places(5);
        due("26: nobody", x.richest(0, 0), 0);
        x.note(0, 30, 0, 3);
        x.note(20, 30, 0, 1);
        due("26: of several the least", x.richest(0, 0), 1);
        due("26: how much", x.richest(0, 1), 30);
        due("26: behind 4", x.richest(4, 0), 3);
        due("26: behind 4, how much", x.richest(4, 1), 14);
        due("26: behind 60", x.richest(60, 0), 0);
        due("26: n 61", x.richest(61, 0), BEYOND);
        due("26: n -1", x.richest(-1, 0), BEYOND);
        due("26: what 2", x.richest(0, 2), BEYOND);
    }

    private static void warmerAndOdds() {
        SnowMoney x = places(9, 1);
        x.note(0, 90, 0, 0);
        x.note(0, 90, 1, 0);
        due("27: as it is", x.warmer(0, 5), 50 + 90);
        due("27: above 9 too", x.warmer(9, 5), 5 + 45);
        due("27: behind 0 HOURS", x.warmer(9, 0), 180);
        due("27: WARMTH stays", x.ofPlace(0, 0), 9);
        due("27: v 10", x.warmer(10, 0), BEYOND);
        due("27: v -1", x.warmer(-1, 0), BEYOND);
        due("27: n 61", x.warmer(0, 61), BEYOND);
        due("27: n -1", x.warmer(0, -1), BEYOND);

        due("28: never", x.odds(0, 60, 0), 0);
        due("28: never, below", x.odds(0, 60, 1), 1);
        due("28: always", x.odds(0, 0, 0), 1);
        due("28: always, below", x.odds(0, 0, 1), 1);
        // at WARMTH 1 behind 18 HOURS: 18 * (y - 2) is below 90 up to y 6
        due("28: seven of ten", x.odds(1, 18, 0), 7);
        due("28: seven of ten, below", x.odds(1, 18, 1), 10);
        due("28: lowest terms", x.odds(1, 15, 0), 4);
        due("28: lowest terms, below", x.odds(1, 15, 1), 5);
        x.change(1, 0, 91);
        due("28: one SNOW left", x.odds(1, 15, 0), 9);
        due("28: one SNOW left, below", x.odds(1, 15, 1), 10);
        due("28: WEATHER stays", x.count(3), 2);
        due("28: note 2", x.odds(2, 0, 0), BEYOND);
        due("28: n 61", x.odds(0, 61, 0), BEYOND);
        due("28: n -1", x.odds(0, -1, 0), BEYOND);
        due("28: part 2", x.odds(0, 0, 2), BEYOND);
        due("28: part -1", x.odds(0, 0, -1), BEYOND);
    }

    private static void traced(SnowMoney x, String what, int... bodies) {
        due(what + ": how many", x.count(8), bodies.length);
        for (int i = 0; i < bodies.length; i++) {
            due(what + ": trace " + i, x.trace(i), bodies[i]);
        }
        due(what + ": none behind", x.trace(bodies.length), NONE);
    }

    private static void voices() {
        SnowMoney x = places(3);
        x.note(0, 9, 0, 0);
        x.note(4, 9, 0, 0);
        due("30: NOTE rings", x.voice(1, 3, 5), 12 ^ 1);
        traced(x, "31: NOTE rings", 13, 11, 10, 12);
        due("30: NOTE falls", x.voice(1, 0, MAX), MIN);
        traced(x, "31: NOTE falls", 10);
        x.become(1, 14);
        due("30: DUCAL melts", x.voice(1, 1, 5), 36);
        traced(x, "31: DUCAL melts", 11, 20, 10);
        x.become(1, 24);
        due("30: FORGED melts", x.voice(1, 1, 5), 12 - (1 - 4));
        traced(x, "31: FORGED melts", 30, 11, 10, 12);
        due("30: FORGED rings", x.voice(1, 3, 5), 15 ^ 1);
        traced(x, "31: FORGED rings", 13, 30, 11, 10, 12, 12);
        x.become(1, 34);
        due("30: BRIDAL pays", x.voice(1, 2, 5), -1);
        traced(x, "31: BRIDAL pays", 40, 12);
        x.become(1, 44);
        due("30: ROYAL rings", x.voice(1, 3, 5), (36 ^ 1) - 9);
        traced(x, "31: ROYAL rings", 50, 13, 11, 20, 10, 12, 20, 10);
        x.become(1, 54);
        due("30: DIRTY melts", x.voice(1, 1, 5), 14 - (1 - 4));
        traced(x, "31: DIRTY melts", 60, 30, 11, 10, 12);
        x.become(1, 64);
        due("30: SALTED rings", x.voice(1, 3, 5), 12 - (12 ^ (-1 ^ 1)));
        traced(x, "31: SALTED rings", 71, 11, 10, 13, 11, 10, 70, 40, 12);
        due("30: note 2", x.voice(2, 0, 0), BEYOND);
        due("30: note -1", x.voice(-1, 0, 0), BEYOND);
        due("30: act 4", x.voice(0, 4, 0), BEYOND);
        due("30: act -1", x.voice(0, -1, 0), BEYOND);
        due("30: THE TRACE stays", x.count(8), 9);
        due("31: trace(-1)", x.trace(-1), NONE);
        due("31: trace(MAX)", x.trace(MAX), NONE);
        int told = x.told(1);
        due("30: any number", x.voice(0, 2, BEYOND), BEYOND);
        due("30: is no ERROR", x.told(1), told);
    }

    private static void sheets() {
        SnowMoney x = places(3);
        due("32: sheet 4", x.sheet(4, 8, 1), BEYOND);
        due("32: sheet -1", x.sheet(-1, 8, -1), BEYOND);
        due("32: bits 7", x.sheet(0, 7, -1), BEYOND);
        due("32: bits -8", x.sheet(0, -8, 1), BEYOND);
        due("32: n -1", x.sheet(0, 8, -1), STATE);
        due("32: n MIN", x.sheet(0, 32, MIN), STATE);
        due("32: n 41", x.sheet(0, 8, 41), BEYOND);
        due("32: it is missing yet", x.judge(0), NONE);
        due("32: n 40", x.sheet(0, 8, 40), 1);
        due("33: number 39", x.put(0, 39, 1), 1);
        due("33: number 40", x.put(0, 40, 1), BEYOND);
        due("33: number -1", x.put(0, -1, 1), BEYOND);
        due("33: sheet 4", x.put(4, 0, 1), BEYOND);
        due("33: missing, ahead of the number", x.put(1, 99, 1), NONE);
        due("32: n 0", x.sheet(0, 16, 0), 1);
        due("33: no number 0", x.put(0, 0, 1), BEYOND);
        due("32: bits 0", x.sheet(0, 0, -5), 1);
        due("32: bits 0, n 99", x.sheet(0, 0, 99), 1);
        due("32: missing now", x.put(0, 0, 1), NONE);
        x.note(0, 9, 0, 0);
        put(x, 0, 32, 9);
        due("32: judged", x.judge(0), -1);
        x.sheet(0, 32, 1);
        due("32: all 0", x.judge(0), 0);
        x.change(0, 0, 0);
        due("32: all 0, judged", x.judge(0), -1);
        x.change(0, 0, 9);
        put(x, 0, 8, 256 + 9);
        due("33: 8 lowest bits", x.judge(0), -1);
        put(x, 0, 16, 65536 + 9);
        due("33: 16 lowest bits", x.judge(0), -1);
        put(x, 0, 16, 256 + 9);
        due("33: 16 bits hold it", x.judge(0), 0);
        put(x, 0, 32, 65536 + 9);
        due("33: 32 bits hold it", x.judge(0), 0);
        put(x, 0, 8, 200);
        due("33: 8 bits with their sign", x.snows(0), 0);
        put(x, 0, 8, 127);
        due("33: 127 fits", x.snows(0), 1);
    }

    private static void moving() {
        SnowMoney x = places(3);
        for (int i = 0; i < 5; i++) {
            x.note(0, 1, 0, 0);
        }
        put(x, 0, 8, 1, 2, 3, 4, 5);
        due("34: forward in itself", x.move(0, 0, 0, 1, 4), 4);
        put(x, 1, 32, 1, 1, 2, 3, 4);
        x.snows(1);
        due("34: as they all were", x.judge(0), -1);
        due("34: back in itself", x.move(0, 1, 0, 0, 4), 4);
        put(x, 1, 32, 1, 2, 3, 4, 4);
        x.snows(1);
        due("34: as they all were, back", x.judge(0), -1);
        put(x, 2, 8, 7, 8);
        due("34: to another one", x.move(2, 0, 0, 3, 2), 2);
        put(x, 1, 32, 1, 2, 3, 7, 8);
        x.snows(1);
        due("34: it stands", x.judge(0), -1);
        due("34: none", x.move(0, 5, 2, 2, 0), 0);
        due("34: sheet 4", x.move(4, 0, 3, 0, 1), BEYOND);
        due("34: other -1", x.move(3, 0, -1, 0, 1), BEYOND);
        due("34: missing", x.move(0, 0, 3, 0, -1), NONE);
        due("34: missing first", x.move(3, 0, 1, 0, -1), NONE);
        due("34: unlike bits", x.move(0, 0, 1, 0, -1), KIND);
        due("34: n -1", x.move(0, 0, 2, 0, -1), BEYOND);
        due("34: i -1", x.move(0, -1, 2, 0, 1), BEYOND);
        due("34: j -1", x.move(0, 0, 2, -1, 1), BEYOND);
        due("34: i too far", x.move(0, 4, 2, 0, 2), BEYOND);
        due("34: j too far", x.move(0, 0, 2, 1, 2), BEYOND);
        due("34: i MAX", x.move(0, MAX, 2, 0, 1), BEYOND);
        due("34: n MAX", x.move(0, 1, 2, 0, MAX), BEYOND);
        due("34: none behind the end", x.move(0, 6, 2, 0, 0), BEYOND);
        due("34: nothing moved", x.judge(0), -1);
    }

    private static void snowsAndJudge() {
        SnowMoney x = places(3);
        x.note(10, 50, 0, 0);
        x.note(37, 50, 0, 0);
        due("35: sheet 4", x.snows(4), BEYOND);
        due("35: sheet -1", x.snows(-1), BEYOND);
        due("35: missing", x.snows(0), NONE);
        put(x, 0, 32, 0, 999, 5);
        due("35: up to the last NOTE", x.snows(0), 2);
        due("35: SNOW 0", x.ofNote(0, 2), 0);
        due("35: SNOW 999", x.ofNote(1, 2), 999);
        put(x, 0, 32, 7, 1000);
        due("35: 1000", x.snows(0), 1);
        due("35: the first stands", x.ofNote(0, 2), 7);
        due("35: the second stays", x.ofNote(1, 2), 999);
        put(x, 0, 32, -1, 3);
        due("35: -1", x.snows(0), 0);
        due("35: behind it none", x.ofNote(1, 2), 999);
        put(x, 0, 32, 8);
        due("35: a short one", x.snows(0), 1);
        due("35: no ERROR", x.told(1), 2);

        due("36: sheet 4", x.judge(4), BEYOND);
        due("36: sheet -1", x.judge(-1), BEYOND);
        due("36: missing", x.judge(1), NONE);
        put(x, 0, 16, 16, 1006);
        due("36: all", x.judge(0), -1);
        put(x, 0, 16, 16, 1005);
        due("36: the second", x.judge(0), 1);
        put(x, 0, 16, 16);
        due("36: one lacks", x.judge(0), 1);
        put(x, 0, 16, 16, 1006, 0);
        due("36: one too many", x.judge(0), 2);
        put(x, 0, 16, 15, 1006, 0);
        due("36: the first is told", x.judge(0), 0);
    }

    private static void images() {
        SnowMoney x = places(5, 6);
        x.note(14, 50, 0, 2);
        x.road(0, 1, 4);
        text(x, 0, "w");
        text(x, 1, "m");
        x.feed('y', 1);
        x.tell(77);
        x.weather(4);
        x.hours(1);
        x.seed(99);
        due("37: image", x.image(), 1);
        x.place(1);
        x.warm(0, 9);
        x.road(0, 1, 0);
        x.note(0, 1, 0, 0);
        x.become(0, 60);
        x.change(0, 0, 3);
        x.change(0, 1, 1);
        x.change(0, 2, 1);
        x.text(0);
        text(x, 1, "0");
        x.check();
        x.loose(3);
        put(x, 0, 32, 48);
        x.voice(0, 3, 1);
        x.place(99);
        due("38: HOUR", x.restore(), 1);
        int[] counts = {2, 1, 1, 4, 48, 0, 1, 1, 9, 99};
        for (int what = 0; what <= 9; what++) {
            due("38: count(" + what + ")", x.count(what), counts[what]);
        }
        int[] of = {1, 4, 48, 0, 2, 2, 96};
        for (int what = 0; what <= 6; what++) {
            due("38: ofNote(0, " + what + ")", x.ofNote(0, what), of[what]);
        }
        due("38: WARMTH", x.ofPlace(0, 0), 5);
        due("38: ROAD", x.road(0, 1, 4), 4);
        due("38: TEXT 0", x.law(0, 8, 5, 5), 8);
        due("38: TEXT 1", x.law(1, 0, 1, 0), 1);
        due("38: told() goes on", x.told(1), 1);
        due("38: a SHEET stays", x.put(0, 0, 96), 1);
        due("38: THE TRACE stays", x.trace(0), 71);
        x.hours(2);
        x.change(0, 0, 9);
        due("38: it stays", x.restore(), 1);
        due("38: again", x.ofNote(0, 2), 48);
        due("38: the SHEET", x.judge(0), -1);
        due("38: THE TAPE", x.text(0), 1);
        due("38: THE TAPE's TEXT", x.law(0, 8, 5, 5), 5);
        x.hours(5);
        due("37: another", x.image(), 2);
        x.hours(1);
        due("38: in place of the one ahead", x.restore(), 6);
        due("37: how often stays", x.image(), 3);
        SnowMoney y = new SnowMoney();
        due("38: there is none", y.restore(), NONE);
        y.image();
        y.place(1);
        due("38: an empty one", y.restore(), 0);
        due("38: no PLACES", y.count(0), 0);
    }

    private static void telling() {
        SnowMoney x = places(5);
        due("40: none wait", x.check(), 0);
        x.note(0, 10, 0, 0);
        x.note(0, 7, 0, 0);
        due("39: one", x.tell(9), 1);
        due("39: two", x.tell(2), 2);
        due("39: three", x.tell(0), 3);
        due("40: all are so", x.check(), 0);
        due("40: none wait then", x.count(7), 0);
        x.tell(9);
        x.tell(3);
        x.tell(1);
        due("40: 1 and the place", x.check(), 2);
        due("40: none wait then either", x.count(7), 0);
        x.tell(17);
        due("40: the first", x.check(), 1);
        due("40: only thought", x.count(4), 17);
        for (int i = 1; i <= 20; i++) {
            due("39: " + i, x.tell(i == 1 ? 9 : i == 2 ? 2 : i < 20 ? 0 : -1), i);
        }
        due("39: 20 wait", x.tell(0), FULL);
        due("39: no more came", x.count(7), 20);
        due("40: the last", x.check(), 20);
        x.tell(MIN);
        due("40: MIN", x.check(), 1);
    }

    private static void counting() {
        SnowMoney x = places(5, 1);
        x.note(0, 5, 0, 0);
        x.note(0, 8, 1, 0);
        x.hours(2);
        x.feed(1, 3);
        x.tell(0);
        x.voice(0, 3, 0);
        x.weather(8);
        x.seed(MIN);
        int[] counts = {2, 2, 2, 8, 8, 1, 3, 1, 4, MIN};
        for (int what = 0; what <= 9; what++) {
            due("41: count(" + what + ")", x.count(what), counts[what]);
        }
        due("41: 10", x.count(10), BEYOND);
        due("41: -1", x.count(-1), BEYOND);
    }

    private static void tellingErrors() {
        SnowMoney x = places(5, 5, 5, 5, 5, 5);
        x.note(0, 5, 0, 0);
        x.count(10);
        x.place(10);
        x.restore();
        x.restore();
        x.trace(0);
        x.carry(0, 1);
        x.carry(0, 1);
        x.carry(0, 1);
        x.sheet(0, 8, -1);
        x.place(0);
        for (int i = 0; i < 5; i++) {
            x.as(0, 1);
        }
        due("42: 0", x.told(0), BEYOND);
        due("42: 6", x.told(6), BEYOND);
        due("42: MIN", x.told(MIN), BEYOND);
        int[] told = {0, 5, 3, 4, 1, 5};
        for (int k = 1; k <= 5; k++) {
            due("42: told(" + k + ")", x.told(k), told[k]);
        }
        x.image();
        x.restore();
        due("42: no IMAGE keeps it", x.told(1), 5);
    }
}
