/**
 * For each sentence of the document that names a boundary case, the answers at the boundary: the least, the greatest,
 * what is empty, what is full, what wraps, which of several. RefusedTest has what lies outside.
 */
public final class EdgeTest {
    private static final int BEYOND = -1000000001;
    private static final int NONE = -1000000002;
    private static final int STATE = -1000000003;
    private static final int FULL = -1000000004;
    private static final int MIN = Integer.MIN_VALUE;
    private static final int MAX = Integer.MAX_VALUE;
    private static int wrong = 0;

    private EdgeTest() {
    }

    private static void due(String what, int got, int want) {
        if (got != want) {
            wrong++;
            System.out.println(what + " answered " + got + ", due is " + want);
        }
    }

    private static SnowMoney places(int... warmths) {
        SnowMoney x = new SnowMoney();
        for (int w : warmths) {
            x.place(w);
        }
        return x;
    }

    private static int text(SnowMoney x, int use, String s) {
        for (int i = 0; i < s.length(); i++) {
            x.feed(s.charAt(i), 1);
        }
        return x.text(use);
    }

    private static void put(SnowMoney x, int sheet, int bits, int... numbers) {
        x.sheet(sheet, bits, numbers.length);
        for (int i = 0; i < numbers.length; i++) {
            x.put(sheet, i, numbers[i]);
        }
    }

    /** PLACE 0 with NOTE 0 in it, and HEAT always v. */
    private static SnowMoney heated(int v, int km, int snow) {
        SnowMoney x = places(0);
        x.note(km, snow, 0, 0);
        text(x, 0, "" + v);
        return x;
    }

    /** HOUR 9999 and NOTE 0 of so much SNOW; HEAT is h: 15, and 16 in the next HOUR. */
    private static SnowMoney late(int snow) {
        SnowMoney x = places(0, 9);
        x.note(0, snow, 0, 0);
        text(x, 0, "0");
        for (int i = 0; i < 166; i++) {
            x.hours(60);
        }
        x.hours(39);
        text(x, 0, "h");
        return x;
    }

    public static void main(String[] args) {
        newObject();
        places();
        roads();
        notes();
        changes();
        melting();
        paying();
        gone();
        textSize();
        textBytes();
        textDepth();
        textFaults();
        textNumbers();
        textWraps();
        laws();
        hours();
        lateHours();
        loose();
        carry();
        then();
        first();
        worth();
        keep();
        pay();
        payLeast();
        payFull();
        byPlace();
        unlikeNames();
        tenOfEightBits();
        lasts();
        way();
        forgers();
        richest();
        warmer();
        odds();
        seedAndVoice();
        voices();
        trace();
        sheets();
        move();
        snows();
        judge();
        images();
        imageOfRoads();
        imageOfFullTexts();
        imageAndTexts();
        tellAndCheck();
        imageAndWaiting();
        told();
        System.out.println(wrong == 0 ? "every edge holds" : wrong + " answers are not as due");
        if (wrong != 0) {
            System.exit(1);
        }
    }

    // ---- 1 to 11: places, notes

    private static void newObject() {
        places(1, 2).note(0, 5, 0, 0);
        SnowMoney x = new SnowMoney();
        int[] counts = {0, 0, 0, 2, 0, 0, 0, 0, 0, 1};
        for (int what = 0; what <= 9; what++) {
            due("1: count(" + what + ") at first", x.count(what), counts[what]);
        }
        due("1: no PLACES", x.ofPlace(0, 0), BEYOND);
        due("1: no NOTES", x.ofNote(0, 0), BEYOND);
        for (int sheet = 0; sheet < 4; sheet++) {
            due("1: SHEET " + sheet + " is missing", x.judge(sheet), NONE);
        }
        due("1: none wait", x.check(), 0);
        due("1: no IMAGE", x.restore(), NONE);
        due("1: no TRACE", x.trace(0), NONE);
        due("1: an empty TAPE", x.text(0), -10);
        due("1: no TEXT of HEAT", x.law(0, 9, 9, 5), 15);
        due("1: no TEXT of FOUND", x.law(1, 4, 9, 9), 1);
        due("1: z is 1", x.seed(1), 1);
        due("1: WEATHER is 2", x.weather(2), 2);
        due("1: an HOUR of nothing", x.hours(1), 0);
        due("1: SNOW of nothing behind 60", x.warmer(9, 60), 0);
        due("1: how often an IMAGE was kept", x.image(), 1);
    }

    private static void places() {
        SnowMoney x = new SnowMoney();
        due("2: WARMTH 0", x.place(0), 0);
        due("2: WARMTH 9", x.place(9), 1);
        due("2: WARMTH 0 stands", x.ofPlace(0, 0), 0);
        due("2: WARMTH 9 stands", x.ofPlace(1, 0), 9);
        for (int i = 2; i < 6; i++) {
            due("2: PLACE " + i, x.place(i), i);
        }
        due("2: six are all", x.place(0), FULL);
        due("2: six stand", x.count(0), 6);
        due("3: the last one, 0", x.warm(5, 0), 5);
        due("3: the last one, 9", x.warm(5, 9), 0);
        due("3: WARMTH stands", x.ofPlace(5, 0), 9);
        due("3: the others stay", x.ofPlace(4, 0), 4);
        for (int i = 0; i < 10; i++) {
            x.note(0, 1, i % 2 == 0 ? 5 : 0, 0);
        }
        due("4: a set of some", x.ofPlace(5, 1), 341);
        due("4: a set of the others", x.ofPlace(0, 1), 682);
        due("4: an empty set", x.ofPlace(1, 1), 0);
        for (int i = 0; i < 10; i++) {
            x.change(i, 1, 1);
        }
        due("4: a full set", x.ofPlace(1, 1), 1023);
        due("11: WEATHER 0", x.weather(0), 2);
        due("11: WEATHER 9", x.weather(9), 0);
        due("11: WEATHER stands", x.count(3), 9);
    }

    private static void roads() {
        SnowMoney x = places(0, 0, 0, 0, 0, 0);
        for (int p = 0; p < 6; p++) {
            for (int q = 0; q < p; q++) {
                due("5: none at first", x.road(p, q, 1 + (p + q) % 9), 0);
            }
        }
        for (int p = 0; p < 6; p++) {
            for (int q = p + 1; q < 6; q++) {
                due("5: each for itself, both ways", x.road(p, q, 0), 1 + (p + q) % 9);
                due("5: none", x.road(q, p, 0), 0);
            }
        }
        due("5: 1 HOUR", x.road(0, 5, 1), 0);
        due("5: 9 HOURS", x.road(5, 0, 9), 1);
        due("5: 9 HOURS stand", x.road(0, 5, 0), 9);
        x.road(0, 1, 1);
        x.note(0, 10, 0, 0);
        due("5: a ROAD goes", x.carry(0, 1), 10);
        x.road(1, 0, 0);
        due("5: it went", x.carry(0, 0), STATE);
    }

    private static void notes() {
        SnowMoney x = places(0, 0, 0, 0, 0, 0);
        due("6: the least of all", x.note(0, 1, 0, 0), 0);
        due("6: the greatest of all", x.note(69, 999, 5, 3), 1);
        int[] least = {0, 0, 1, 0, 0, 0, 1};
        int[] greatest = {6, 9, 999, 5, 3, 0, 999};
        for (int what = 0; what <= 6; what++) {
            due("7: the least, what " + what, x.ofNote(0, what), least[what]);
            due("7: the greatest, what " + what, x.ofNote(1, what), greatest[what]);
        }
        due("6: km 9", x.note(9, 1, 0, 0), 2);
        due("6: km 10", x.note(10, 1, 0, 0), 3);
        due("6: km 9 is a NOTE", x.ofNote(2, 0), 0);
        due("6: km 9 has 9", x.ofNote(2, 1), 9);
        due("6: km 10 is a DUCAL", x.ofNote(3, 0), 1);
        due("6: km 10 has 0", x.ofNote(3, 1), 0);
        for (int i = 4; i < 10; i++) {
            due("6: NOTE " + i, x.note(10 * (i - 4), 1, 0, 0), i);
        }
        due("6: ten are all", x.note(0, 1, 0, 0), FULL);
        due("6: ten stand", x.count(1), 10);
        x.change(9, 0, 0);
        due("6: a GONE one is one of the ten", x.note(0, 1, 0, 0), FULL);
    }

    private static void changes() {
        SnowMoney x = places(0, 0, 0, 0, 0, 0);
        for (int i = 0; i < 10; i++) {
            x.note(69, 5, 0, 0);
        }
        due("8: SNOW 0", x.change(9, 0, 0), 5);
        due("8: SNOW 999", x.change(9, 0, 999), 0);
        due("8: SNOW stands", x.ofNote(9, 2), 999);
        due("8: AT the last", x.change(9, 1, 5), 0);
        due("8: AT the first", x.change(9, 1, 0), 5);
        due("8: OWNER 3", x.change(9, 2, 3), 0);
        due("8: OWNER 0", x.change(9, 2, 0), 3);
        due("8: the others stay", x.ofNote(8, 2), 5);
        due("9: km 0", x.become(9, 0), 6);
        due("9: KIND 0", x.ofNote(9, 0), 0);
        due("9: m 0", x.ofNote(9, 1), 0);
        due("9: km 69", x.become(9, 69), 0);
        due("9: KIND 6", x.ofNote(9, 0), 6);
        due("9: m 9", x.ofNote(9, 1), 9);
        due("9: SNOW stays", x.ofNote(9, 2), 999);
        due("10: as itself, the last KIND", x.as(9, 6), 9);
        due("10: as the first KIND", x.as(9, 0), 9);
        x.become(0, 0);
        due("10: m 0", x.as(0, 0), 0);
    }

    /** Quotients are cut; 0 in place of what is below it, at the end alone. */
    private static void melting() {
        // by HEAT: NOTE 9, DUCAL 9, FORGED 9, BRIDAL 0, BRIDAL 9, ROYAL 9, DIRTY 9, SALTED 0, SALTED 9
        int[] km = {9, 19, 29, 30, 39, 49, 59, 60, 69};
        int[][] table = {
            {0, 0, 0, 2, 0, 0, 0, 4, 9, 0},
            {1, 1, 0, 3, 1, 0, 0, 6, 10, 1},
            {2, 2, 1, 4, 2, 0, 0, 8, 11, 2},
            {3, 3, 1, 5, 3, 0, 0, 10, 12, 3},
            {4, 4, 2, 6, 4, 0, 1, 12, 13, 4},
            {8, 8, 4, 10, 8, 0, 3, 20, 17, 8},
            {9, 9, 4, 11, 9, 0, 3, 22, 18, 9},
            {10, 10, 5, 12, 10, 1, 4, 24, 19, 10},
            {98, 98, 49, 100, 98, 89, 48, 200, 107, 98},
            {99, 99, 49, 101, 99, 90, 48, 202, 108, 99},
        };
        for (int[] row : table) {
            SnowMoney x = heated(row[0], 0, 999);
            for (int i = 0; i < km.length; i++) {
                x.become(0, km[i]);
                due("7: km " + km[i] + " at HEAT " + row[0], x.ofNote(0, 5), row[i + 1]);
                due("18: km " + km[i] + " at HEAT " + row[0], x.then(1, 0, 0), 999 - row[i + 1]);
            }
        }
        due("7: HEAT is held at 99", heated(9999, 0, 999).ofNote(0, 5), 99);
        SnowMoney cold = places(0);
        cold.weather(0);
        cold.note(20, 9, 0, 0);
        cold.note(50, 9, 0, 0);
        cold.note(60, 9, 0, 0);
        due("7: w+y-3 is held at 0 ahead of FORGED's 2", cold.ofNote(0, 5), 2);
        due("7: w+y-3 is held at 0 ahead of DIRTY's", cold.ofNote(1, 5), 4);
        due("7: w+y-3 is held at 0 ahead of SALTED's 9", cold.ofNote(2, 5), 9);
        due("7: a GONE one melts likewise", goneOne().ofNote(0, 5), 6);
    }

    private static SnowMoney goneOne() {
        SnowMoney x = places(7);
        x.note(0, 9, 0, 0);
        x.change(0, 0, 0);
        return x;
    }

    private static void paying() {
        int[] km = {9, 19, 29, 30, 39, 40, 49, 59, 69};
        int[][] table = {
            {0, 0, 0, 0, 0, 0, 0, 0, 0, 0},
            {1, 1, 2, 0, 1, 10, 7, 7, 0, 1},
            {4, 4, 8, 0, 4, 13, 13, 13, 0, 4},
            {5, 5, 10, 5, 5, 14, 15, 15, 2, 5},
            {7, 7, 14, 7, 7, 16, 19, 19, 3, 7},
            {999, 999, 1998, 999, 999, 1008, 2003, 2003, 499, 999},
        };
        SnowMoney x = heated(0, 0, 1);
        for (int[] row : table) {
            x.change(0, 0, row[0]);
            for (int i = 0; i < km.length; i++) {
                x.become(0, km[i]);
                due("7: PAYS of km " + km[i] + " with SNOW " + row[0], x.ofNote(0, 6), row[i + 1]);
                due("18: PAYS of km " + km[i] + " with SNOW " + row[0], x.then(0, 0, 1), row[i + 1]);
                due("20: PAYS of km " + km[i] + " with SNOW " + row[0], x.worth(0), row[i + 1]);
            }
        }
        int[] found = {999, 1998, 0, 1003, 2003, 0, 999};
        text(x, 1, "2");
        for (int kind = 0; kind <= 6; kind++) {
            x.become(0, 10 * kind + 4);
            due("7: found out always, KIND " + kind, x.ofNote(0, 6), found[kind]);
        }
        text(x, 1, "0-2");
        x.become(0, 20);
        due("7: below 0 it is not found out", x.ofNote(0, 6), 999);
        x.change(0, 0, 0);
        due("7: not found out, and GONE", x.ofNote(0, 6), 0);
        x.change(0, 0, 1);
        x.become(0, 50);
        due("7: half of 1", x.ofNote(0, 6), 0);
    }

    private static void gone() {
        SnowMoney x = places(0);
        due("41: none GONE of none", x.count(5), 0);
        x.note(0, 1, 0, 0);
        x.note(0, 999, 0, 0);
        due("41: SNOW 1 is not GONE", x.count(5), 0);
        x.change(0, 0, 0);
        due("41: SNOW 0 is GONE", x.count(5), 1);
        x.change(1, 0, 0);
        due("41: all GONE", x.count(5), 2);
        due("41: SNOW of all", x.count(4), 0);
        for (int i = 2; i < 10; i++) {
            x.note(0, 999, 0, 0);
        }
        x.change(0, 0, 999);
        x.change(1, 0, 999);
        due("41: SNOW of all, the most", x.count(4), 9990);
    }

    // ---- 12 to 14: texts

    private static void textSize() {
        SnowMoney x = new SnowMoney();
        for (int i = 1; i <= 25; i++) {
            due("12: two bytes", x.feed(i < 25 ? 0x2B31 : 0x3131, 2), 2 * i);
        }
        due("12: 50 are all", x.feed('1', 1), FULL);
        due("13: 50 bytes are a TEXT", x.text(0), 1);
        due("13: 50 bytes, worked out", x.law(0, 0, 0, 0), 24 + 11);
        due("13: 50 bytes, each a sign of its own", text(x, 0, "!0" + "+1".repeat(24)), 1);
        due("13: 50 signs, worked out", x.law(0, 0, 0, 0), 25);
        due("12: room again", x.feed(0x3131313131313131L, 8), 8);
        due("12: the least", x.feed('1', 1), 9);
        due("13: nine digits", x.text(0), -14);
        due("12: bytes above n don't come", x.feed(0x7777777777777739L, 1), 1);
        due("13: one byte", x.text(0), 1);
        due("13: one byte, worked out", x.law(0, 5, 5, 5), 9);
        x.feed('7' | '3' << 8 | '+' << 16, 2);
        due("13: the two lowest alone", x.text(0), 1);
        due("13: the lowest first", x.law(0, 0, 0, 0), 73);
        x.feed(0x3230302A30312B32L, 8);
        due("13: eight bytes", x.text(0), 1);
        due("13: 2+10*002", x.law(0, 0, 0, 0), 22);
        x.feed(0x303030302D312B32L, 8);
        x.text(0);
        due("13: 2+1-0000", x.law(0, 0, 0, 0), 3);
        x.feed(0xFFFFFFFF00000000L | 'w' | 0x0100, 1);
        due("13: of a word its lowest byte alone", x.text(0), 1);
        x.feed(-1L, 8);
        due("12: a byte is 0 to 255", x.count(6), 8);
        due("13: a fault at the first of many", x.text(1), -10);
        due("13: THE TAPE is empty then", x.count(6), 0);
    }

    private static int fault(int use, String s) {
        return -10 - text(new SnowMoney(), use, s);
    }

    private static final int GOOD = -11;

    /** Every byte of 0 to 255 first, behind a Q, and behind a sign. */
    private static void textBytes() {
        String begins = "0123456789wyh!(";
        String joins = "+-*/%<=>&|";
        for (char b = 0; b < 256; b++) {
            boolean is = begins.indexOf(b) >= 0;
            String rest = b == '!' ? "1" : b == '(' ? "1)" : "";
            due("13: first, byte " + (int) b, fault(0, b + rest), is ? GOOD : 0);
            due("13: behind +, byte " + (int) b, fault(0, "1+" + b + rest), is ? GOOD : 2);
            due("13: behind <, byte " + (int) b, fault(0, "1<" + b + rest), is ? GOOD : 2);
            boolean goes = joins.indexOf(b) >= 0;
            due("13: behind a NAME, byte " + (int) b, fault(0, "w" + b + "1"), goes ? GOOD : 1);
            due("13: behind ( ), byte " + (int) b, fault(0, "(1)" + b + "1"), goes ? GOOD : 3);
            boolean digit = b >= '0' && b <= '9';
            due("13: behind a NUMBER, byte " + (int) b, fault(0, "1" + b + "1"), goes || digit ? GOOD : 1);
        }
        SnowMoney x = new SnowMoney();
        due("13: a TEXT of one byte", text(x, 0, "w"), 1);
        due("13: THE TAPE is empty then", x.text(0), -10);
        due("13: THE TAPE is empty for another USE, too", x.text(1), -10);
        due("13: the TEXT stays", x.law(0, 8, 4, 4), 8);
        due("13: a shorter one behind a longer one", text(x, 0, "w+1+1+1") + text(x, 0, "w+1"), 2);
        due("13: nothing of the longer one is left", x.law(0, 8, 4, 4), 9);
        due("13: a short FAULT behind a longer one", text(x, 0, "w+"), -12);
    }

    /** At most 5 of ! and ( are open at once; what is closed is not open. */
    private static void textDepth() {
        due("13: five (", fault(0, "(((((1)))))"), GOOD);
        due("13: six (", fault(0, "((((((1))))))"), 5);
        due("13: five !", fault(0, "!!!!!1"), GOOD);
        due("13: six !", fault(0, "!!!!!!1"), 5);
        due("13: four ( and !", fault(0, "((((!1))))"), GOOD);
        due("13: five ( and !", fault(0, "(((((!1)))))"), 5);
        due("13: five ! and (", fault(0, "!!!!!(1)"), 5);
        due("13: four ! and (", fault(0, "!!!!(1)"), GOOD);
        due("13: a ! is open until its ( ) closes", fault(0, "!(!(!(1)))"), 5);
        due("13: seven ( side by side", fault(0, "(1)+(1)+(1)+(1)+(1)+(1)+(1)"), GOOD);
        due("13: seven ! side by side", fault(0, "!1+!1+!1+!1+!1+!1+!1"), GOOD);
        due("13: five, closed, and five", fault(0, "(((((1)))))+(((((1)))))"), GOOD);
        due("13: closed within", fault(0, "((((!1*(1)-!1))))"), GOOD);
        due("13: closed within, and a sixth", fault(0, "((((!1*(!1)))))"), 8);
        due("13: closed within, but for four, and two", fault(0, "((((1)+((1"), 9 + 1);
        due("13: closed within, but for three, and three", fault(0, "((((1)+(((1"), 9);
        due("13: five open and the end", fault(0, "((((("), 5);
        due("13: six open at the end", fault(0, "(((((("), 5);
        for (String sign : new String[] {"+", "-", "*", "/", "%", "<", "=", ">", "&", "|"}) {
            due("13: five ( behind " + sign, fault(0, "1" + sign + "(((((1)))))"), GOOD);
            due("13: six ( behind " + sign, fault(0, "1" + sign + "((((((1))))))"), 7);
            due("13: five ( ahead of " + sign, fault(0, "(((((1)))))" + sign + "1"), GOOD);
            due("13: four ( and five behind " + sign, fault(0, "((((1" + sign + "!1))))"), GOOD);
            due("13: four ( and six behind " + sign, fault(0, "((((1" + sign + "!!1))))"), 7);
            due("13: five ! behind " + sign, fault(0, "1" + sign + "!!!!!1"), GOOD);
            due("13: six ! behind " + sign, fault(0, "1" + sign + "!!!!!!1"), 7);
        }
        due("13: five ! and the end", fault(0, "!!!!!"), 5);
    }

    private static void textFaults() {
        due("13: empty", fault(0, ""), 0);
        due("13: 50 bytes that end too early", fault(0, "1+".repeat(25)), 50);
        due("13: the last of 50", fault(0, "1+".repeat(24) + "1?"), 49);
        due("13: a digit too many as the last of 50", fault(0, "(" + "1+".repeat(22) + "12345"), 49);
        for (String sign : new String[] {"+", "-", "*", "/", "%", "<", "=", ">", "&", "|"}) {
            due("13: " + sign + " first", fault(0, sign + "1"), 0);
            due("13: " + sign + " at the end", fault(0, "1" + sign), 2);
            due("13: " + sign + " twice", fault(0, "1" + sign + sign + "1"), 2);
            due("13: " + sign + " ahead of )", fault(0, "(1" + sign + ")"), 3);
            due("13: " + sign + " behind (", fault(0, "(" + sign + "1)"), 1);
            due("13: " + sign + " behind !", fault(0, "!" + sign + "1"), 1);
            due("13: " + sign + " between", fault(0, "1" + sign + "1"), GOOD);
        }
        due("13: ) first", fault(0, ")"), 0);
        due("13: ) too many", fault(0, "(1))"), 3);
        due("13: ( ) of nothing", fault(0, "()"), 1);
        due("13: ( not closed", fault(0, "(1"), 2);
        due("13: ! of nothing", fault(0, "!"), 1);
        due("13: ! behind a NUMBER", fault(0, "1!1"), 1);
        due("13: ( behind a NAME", fault(0, "w(1)"), 1);
        due("13: a NAME behind )", fault(0, "(1)w"), 3);
        due("13: a blank first", fault(0, " 1"), 0);
        due("13: a blank last", fault(0, "1 "), 1);
        due("13: a blank between digits", fault(0, "1 1"), 1);
        due("13: a great letter", fault(0, "W"), 0);
        due("13: one < alone", fault(0, "1<2<3"), 3);
        due("13: one of < = > alone", fault(0, "1>2=3"), 3);
        due("13: < and < by &", fault(0, "1<2&2<3"), GOOD);
        due("13: < and < by |", fault(0, "1<2|2<3"), GOOD);
        due("13: < of < in ( )", fault(0, "(1<2)<(2<3)"), GOOD);
        due("13: < in ( ) and another", fault(0, "(1<2<3)"), 4);
        for (String name : new String[] {"w", "y", "h"}) {
            due("13: " + name + " of HEAT", fault(0, name), GOOD);
            due("13: " + name + " is none of FOUND", fault(1, name), 0);
        }
        for (String name : new String[] {"s", "m", "o"}) {
            due("13: " + name + " of FOUND", fault(1, name), GOOD);
            due("13: " + name + " is none of HEAT", fault(0, name), 0);
        }
        SnowMoney x = new SnowMoney();
        due("13: the answer of FAULT 0", text(x, 0, ")"), -10);
        due("13: the one ahead stays, none", x.law(0, 5, 5, 5), 7);
        due("13: a FAULT is no ERROR", x.told(1) + x.told(2) + x.told(3) + x.told(4) + x.told(5), 0);
        text(x, 0, "w");
        text(x, 0, "w+");
        due("13: the one ahead stays", x.law(0, 5, 5, 5), 5);
        due("13: THE TAPE is empty behind a FAULT", x.count(6), 0);
        text(x, 1, "0");
        due("13: another USE stays", x.law(0, 5, 5, 5), 5);
        text(x, 0, "y");
        due("13: in place of one ahead", x.law(0, 5, 6, 5), 6);
    }

    private static void textNumbers() {
        due("13: one digit", fault(0, "0"), GOOD);
        due("13: four digits", fault(0, "9999"), GOOD);
        due("13: five digits", fault(0, "99999"), 4);
        due("13: five 0", fault(0, "00000"), 4);
        due("13: five digits behind a sign", fault(0, "w+12345"), 6);
        due("13: four digits, twice", fault(0, "9999+9999"), GOOD);
        SnowMoney x = new SnowMoney();
        text(x, 0, "9999-9900");
        due("13: the greatest NUMBER", x.law(0, 0, 0, 0), 99);
        text(x, 0, "0098");
        due("13: 0 ahead", x.law(0, 0, 0, 0), 98);
        text(x, 0, "1234-1200");
        due("13: digits in order", x.law(0, 0, 0, 0), 34);
    }

    /** What HEAT gives by this TEXT with w and y. */
    private static int heat(String s, int w, int y) {
        SnowMoney x = new SnowMoney();
        return text(x, 0, s) == 1 ? x.law(0, w, y, 0) : MIN;
    }

    private static void textWraps() {
        due("13: MAX + 1", heat("w+y<0", MAX, 1), 1);
        due("13: MIN - 1", heat("w-y>0", MIN, 1), 1);
        due("13: MAX * 2", heat("w*y=0-2", MAX, 2), 1);
        due("13: MAX by NUMBERS", heat("9999*9999*21+4790*9999+8416>0", 0, 0), 1);
        due("13: and 1 more", heat("9999*9999*21+4790*9999+8416+1<0", 0, 0), 1);
        due("13: MIN / -1", heat("w/y=w", MIN, -1), 1);
        due("13: MIN % -1", heat("w%y+7", MIN, -1), 7);
        due("13: -7 / 2", heat("w/y+9", -7, 2), 6);
        due("13: 7 / -2", heat("w/y+9", 7, -2), 6);
        due("13: -7 % 2", heat("w%y+9", -7, 2), 8);
        due("13: 7 % -2", heat("w%y+9", 7, -2), 10);
        due("13: 7 / 0", heat("w/y+9", 7, 0), 9);
        due("13: 7 % 0", heat("w%y+9", 7, 0), 9);
        due("13: 0 / 0", heat("w/y+9", 0, 0), 9);
        due("13: / 0 within", heat("5/(w-y)*3+8", 4, 4), 8);
        due("13: MIN < MAX", heat("w<y", MIN, MAX), 1);
        due("13: MAX < MIN", heat("w<y", MAX, MIN), 0);
        due("13: MAX > MIN", heat("w>y", MAX, MIN), 1);
        due("13: MIN > MAX", heat("w>y", MIN, MAX), 0);
        due("13: like ones are not <", heat("w<y", 5, 5), 0);
        due("13: like ones are not >", heat("w>y", 5, 5), 0);
        due("13: like ones are =", heat("w=y", MIN, MIN), 1);
        due("13: unlike ones are not =", heat("w=y", MIN, MAX), 0);
        due("13: 2 & 1", heat("w&y", 2, 1), 1);
        due("13: MIN & -1", heat("w&y", MIN, -1), 1);
        due("13: 0 & 1", heat("w&y", 0, 1), 0);
        due("13: 1 & 0", heat("w&y", 1, 0), 0);
        due("13: 0 | MIN", heat("w|y", 0, MIN), 1);
        due("13: 6 | 0", heat("w|y", 6, 0), 1);
        due("13: 0 | 0", heat("w|y", 0, 0), 0);
        due("13: !MIN", heat("!w", MIN, 0), 0);
        due("13: !0", heat("!w", 0, 0), 1);
        due("13: !!5", heat("!!w", 5, 0), 1);
    }

    private static void laws() {
        SnowMoney x = new SnowMoney();
        due("14: w+y-3 at 0", x.law(0, 1, 2, 9), 0);
        due("14: w+y-3 below 0", x.law(0, 1, 1, 9), 0);
        due("14: w+y-3 at 1", x.law(0, 1, 3, 9), 1);
        due("14: w+y-3 at 99", x.law(0, 100, 2, 9), 99);
        due("14: w+y-3 at 100", x.law(0, 100, 3, 9), 99);
        due("14: w+y-3 wraps", x.law(0, MAX, 4, 0), 0);
        due("14: w+y-3 wraps back", x.law(0, MIN, 2, 0), 99);
        due("14: s<5 at 4", x.law(1, 4, 0, 0), 1);
        due("14: s<5 at 5", x.law(1, 5, 0, 0), 0);
        due("14: s<5 at MIN", x.law(1, MIN, 0, 0), 1);
        due("14: s<5 at MAX", x.law(1, MAX, 0, 0), 0);
        text(x, 0, "w");
        text(x, 1, "s");
        int[] given = {MIN, -1, 0, 1, 2, 98, 99, 100, MAX};
        int[] heat = {0, 0, 0, 1, 2, 98, 99, 99, 99};
        int[] found = {0, 0, 0, 1, 1, 1, 1, 1, 1};
        for (int i = 0; i < given.length; i++) {
            due("14: HEAT of " + given[i], x.law(0, given[i], 7, 7), heat[i]);
            due("14: FOUND of " + given[i], x.law(1, given[i], 7, 7), found[i]);
        }
        text(x, 0, "y");
        due("14: b is y", x.law(0, 1, 20, 30), 20);
        text(x, 0, "h");
        due("14: c is h, not by 24", x.law(0, 1, 20, 30), 30);
        text(x, 1, "m");
        due("14: b is m", x.law(1, 0, 1, 0), 1);
        text(x, 1, "o");
        due("14: c is o", x.law(1, 0, 0, 1), 1);
        due("14: c 0 is o", x.law(1, 1, 1, 0), 0);
        text(x, 1, "m");
        due("14: c is not m", x.law(1, 1, 0, 1), 0);
        text(x, 0, "(w=50)*40+(y=60)*20+(h=70)*9");
        text(x, 1, "(s=50)&(m=60)&(o=70)");
        for (int more = -1; more <= 1; more++) {
            int is = more == 0 ? 1 : 0;
            due("14: w as told, " + more, x.law(0, 50 + more, 60, 70), 29 + 40 * is);
            due("14: y as told, " + more, x.law(0, 50, 60 + more, 70), 49 + 20 * is);
            due("14: h as told, " + more, x.law(0, 50, 60, 70 + more), 60 + 9 * is);
            due("14: s as told, " + more, x.law(1, 50 + more, 60, 70), is);
            due("14: m as told, " + more, x.law(1, 50, 60 + more, 70), is);
            due("14: o as told, " + more, x.law(1, 50, 60, 70 + more), is);
        }
    }

    // ---- 15 to 17: hours, carrying

    private static void hours() {
        SnowMoney x = heated(7, 0, 15);
        x.note(0, 14, 0, 0);
        x.note(0, 13, 0, 0);
        due("15: the least", x.hours(1), 8 + 7 + 6);
        due("15: one more, just GONE and GONE", x.hours(1), 1);
        due("15: SNOW 1", x.ofNote(0, 2), 1);
        due("15: just GONE", x.ofNote(1, 2), 0);
        due("15: 0 at least", x.ofNote(2, 2), 0);
        due("15: HOUR", x.count(2), 2);
        SnowMoney y = heated(1, 0, 61);
        y.note(0, 60, 0, 0);
        due("15: the most", y.hours(60), 1);
        due("15: HOUR 60", y.count(2), 60);
        SnowMoney z = places(0);
        z.note(0, 999, 0, 0);
        text(z, 0, "h");
        due("7: h at HOUR 0", z.ofNote(0, 5), 0);
        due("15: 0 to 22", z.hours(23), 999 - 253);
        due("7: h at HOUR 23", z.ofNote(0, 5), 23);
        due("15: 23", z.hours(1), 999 - 276);
        due("7: h at HOUR 24", z.ofNote(0, 5), 0);
        due("15: 0 and 1", z.hours(2), 999 - 277);
        z.change(0, 0, 999);
        due("15: 60 HOURS from 26 on", z.hours(60), 999 - 275 - 276 - 91);
    }

    /** HOUR is 0 to 9999; all that is thought of goes beyond. At HOUR 9999 h is 15. */
    private static void lateHours() {
        SnowMoney x = late(32);
        due("15: HOUR 9999 is reached", x.count(2), 9999);
        due("15: no HOUR more", x.hours(1), STATE);
        due("16: no HOUR more by a draw", x.loose(1), STATE);
        due("7: h is 15", x.ofNote(0, 5), 15);
        due("18: behind 1", x.then(1, 0, 0), 17);
        due("18: behind 2", x.then(2, 0, 0), 1);
        due("18: behind 3", x.then(3, 0, 0), 0);
        due("19: beyond 9999", x.first(0), 3);
        due("21: beyond 9999", x.keep(0, 2, 1), 1);
        due("23: beyond 9999", x.lasts(0, 1), 2);
        due("23: beyond 9999, 2", x.lasts(0, 2), 1);
        due("26: beyond 9999", x.richest(2, 1), 1);
        due("27: beyond 9999", x.warmer(9, 2), 1);
        due("28: beyond 9999", x.odds(0, 2, 0), 1);
        due("28: beyond 9999, none", x.odds(0, 3, 0), 0);
        put(x, 0, 8, 1, 2);
        due("25: beyond 9999", x.forgers(0, 0), 2);
        x.tell(17);
        x.tell(1);
        x.tell(0);
        due("40: beyond 9999", x.check(), 0);
        due("15: HOUR stays", x.count(2), 9999);
        text(x, 0, "(h=23)*10+(h=0)*3");
        due("18: h goes round beyond 9999", x.then(9, 0, 0), 22);
        due("18: h begins again beyond 9999", x.then(10, 0, 0), 19);
        SnowMoney y = places(0);
        for (int i = 0; i < 166; i++) {
            y.hours(60);
        }
        due("15: up to 9999", y.hours(39), 0);
        due("15: HOUR 9999", y.count(2), 9999);
    }

    private static void loose() {
        SnowMoney x = heated(0, 0, 50);
        text(x, 0, "y");
        // 1 * 1103515245 + 12345 = 1103527590, by 256: 4310654, the rest by 10: 4
        due("16: the least", x.loose(1), 46);
        due("16: z", x.count(9), 1103527590);
        due("16: WEATHER", x.count(3), 4);
        due("16: HOUR", x.count(2), 1);
        int z = 1103527590;
        int left = 46;
        for (int i = 0; i < 40; i++) {
            z = z * 1103515245 + 12345;
            left = Math.max(0, left - (z >>> 8) % 10);
        }
        due("16: the most", x.loose(40), left);
        due("16: z behind the most", x.count(9), z);
        due("16: HOUR behind the most", x.count(2), 41);
        x.seed(inverse(-1 - 12345));
        x.change(0, 0, 50);
        due("16: what z gives is not below 0", x.loose(1), 50 - (-1 >>> 8) % 10);
        due("16: z is -1", x.count(9), -1);
        due("16: WEATHER is 5", x.count(3), 5);
        SnowMoney y = new SnowMoney();
        due("16: no NOTES", y.loose(40), 0);
        SnowMoney l = late(500);
        l.restore();
        due("16: WEATHER stays when refused", l.loose(1) + l.count(3), STATE + 2);
    }

    /** z with z * 1103515245 = v; each step doubles how many of its bits are right. */
    private static int inverse(int v) {
        int inverse = 1103515245;
        for (int i = 0; i < 5; i++) {
            inverse *= 2 - 1103515245 * inverse;
        }
        return v * inverse;
    }

    private static void carry() {
        SnowMoney x = places(0, 0);
        x.note(0, 28, 0, 0);
        text(x, 0, "3");
        x.road(0, 1, 9);
        due("17: h times", x.carry(0, 1), 1);
        x.change(0, 0, 27);
        due("17: just GONE", x.carry(0, 0), 0);
        x.change(0, 0, 26);
        due("17: 0 at least", x.carry(0, 1), 0);
        due("17: it is AT that one, GONE", x.ofNote(0, 3), 1);
        due("17: HOUR stays", x.count(2), 0);
        x.road(0, 1, 1);
        x.change(0, 0, 4);
        due("17: a ROAD of 1 HOUR", x.carry(0, 0), 1);
        SnowMoney y = places(0, 9);
        y.note(69, 999, 0, 0);
        text(y, 0, "w");
        y.road(0, 1, 9);
        due("17: what it MELTS is 0 at least", y.carry(0, 1), 999);
        due("17: as it lies now", y.carry(0, 0), 999 - 81);
        y.become(0, 39);
        due("17: BRIDAL melts nothing", y.carry(0, 1), 999 - 81);
        text(y, 0, "h");
        y.hours(1);
        y.become(0, 0);
        due("17: h stays on the way", y.carry(0, 0), 999 - 81 - 9);
    }

    // ---- 18 to 28: what would be

    private static void then() {
        SnowMoney x = heated(1, 0, 60);
        due("18: behind 0", x.then(0, 0, 0), 60);
        due("18: behind 1", x.then(1, 0, 0), 59);
        due("18: behind 59", x.then(59, 0, 0), 1);
        due("18: behind 60", x.then(60, 0, 0), 0);
        x.change(0, 0, 61);
        due("18: SNOW 1 behind 60", x.then(60, 0, 0), 1);
        x.become(0, 47);
        text(x, 0, "4");
        due("18: PAYS behind 60", x.then(60, 0, 1), 7);
        x.change(0, 0, 60);
        due("18: PAYS of a GONE one", x.then(60, 0, 1), 0);
        x.become(0, 20);
        text(x, 0, "0");
        x.change(0, 0, 7);
        due("18: found out by what is left, not yet", x.then(1, 0, 1), 5);
        due("18: found out by what is left", x.then(2, 0, 1), 0);
        due("18: only thought", x.ofNote(0, 2), 7);
    }

    private static void first() {
        SnowMoney x = heated(1, 0, 1);
        due("19: the least", x.first(0), 1);
        x.change(0, 0, 60);
        due("19: the greatest", x.first(0), 60);
        due("19: the greatest, which", x.first(1), 0);
        x.change(0, 0, 61);
        due("19: not by 60", x.first(0), NONE);
        x.change(0, 0, 0);
        due("19: what is GONE now doesn't count", x.first(0), NONE);
        x.note(0, 60, 0, 0);
        due("19: beside a GONE one", x.first(1), 1);
        x.note(0, 60, 0, 0);
        due("19: of several the least", x.first(1), 1);
        x.change(2, 0, 59);
        due("19: the other is first", x.first(1), 2);
        due("19: the other is first, HOURS", x.first(0), 59);
        for (int i = 3; i < 10; i++) {
            x.note(0, 100 - i, 0, 0);
        }
        x.change(9, 0, 2);
        due("19: the last of ten", x.first(1), 9);
        due("19: the last of ten, HOURS", x.first(0), 2);
        due("19: HEAT 0", heated(0, 0, 1).first(0), NONE);
    }

    private static void worth() {
        SnowMoney x = heated(0, 49, 999);
        due("20: OWNER 0", x.worth(0), 2003);
        due("20: no NOTES of OWNER 3", x.worth(3), 0);
        for (int i = 1; i < 10; i++) {
            x.note(49, 999, 0, 0);
        }
        due("20: the most", x.worth(0), 20030);
        x.change(9, 2, 3);
        due("20: OWNER 3", x.worth(3), 2003);
        x.change(9, 0, 0);
        due("20: GONE ones pay nothing", x.worth(3), 0);
    }

    private static void keep() {
        SnowMoney x = places(3, 1, 1, 9, 9, 1);
        x.weather(3);
        x.note(0, 60, 0, 0);
        due("21: the least of several", x.keep(0, 1, 0), 1);
        due("21: SNOW behind 1", x.keep(0, 1, 1), 59);
        due("21: SNOW behind 59", x.keep(0, 59, 1), 1);
        due("21: all gone behind 60: the least PLACE", x.keep(0, 60, 0), 0);
        due("21: all gone behind 60", x.keep(0, 60, 1), 0);
        due("21: behind 0 all are alike", x.keep(0, 0, 0), 0);
        due("21: behind 0", x.keep(0, 0, 1), 60);
        x.warm(5, 0);
        due("21: the last PLACE", x.keep(0, 60, 0), 5);
        due("21: the last PLACE, SNOW", x.keep(0, 60, 1), 60);
        x.change(0, 1, 5);
        due("21: where it lies", x.keep(0, 60, 0), 5);
        x.change(0, 0, 0);
        due("21: a GONE one", x.keep(0, 9, 0), 0);
        due("21: a GONE one, SNOW", x.keep(0, 9, 1), 0);
        SnowMoney y = heated(9, 0, 50);
        due("21: one PLACE", y.keep(0, 5, 0), 0);
        due("21: one PLACE, SNOW", y.keep(0, 5, 1), 5);
    }

    private static void pay() {
        SnowMoney x = heated(0, 0, 7);
        due("22: v 1", x.pay(0, 1, 0), 1);
        due("22: v 1, PAYS", x.pay(0, 1, 1), 7);
        due("22: just all", x.pay(0, 7, 0), 1);
        due("22: one above all", x.pay(0, 8, 0), NONE);
        x.change(0, 0, 0);
        due("22: nothing pays nothing", x.pay(0, 1, 0), NONE);
        x.note(0, 7, 0, 0);
        due("22: what pays nothing is left out", x.pay(0, 7, 0), 2);
        x.note(0, 7, 0, 0);
        due("22: like ones, the least", x.pay(0, 7, 0), 2);
        due("22: both", x.pay(0, 8, 0), 6);
        x.note(0, 14, 0, 0);
        due("22: the fewest, though not the least set", x.pay(0, 14, 0), 8);
        due("22: least PAYS ahead of fewest", x.pay(0, 15, 1), 21);
        due("22: least PAYS, fewest, least set", x.pay(0, 15, 0), 10);
        x.note(0, 15, 0, 0);
        due("22: least PAYS ahead of the fewest NOTES", x.pay(0, 22, 0), 18);
        x.note(0, 13, 0, 1);
        due("22: another's NOTE is not taken", x.pay(0, 13, 1), 14);
        due("22: another's NOTE alone", x.pay(1, 13, 0), 32);
        due("22: all of one, without another's", x.pay(0, 43, 0), 30);
        due("22: more than all of one", x.pay(0, 44, 0), NONE);
        SnowMoney y = heated(0, 0, 4);
        int[] snows = {3, 5, 6, 8};
        for (int s : snows) {
            y.note(0, s, 0, 0);
        }
        // 11 by 3 + 8 and by 5 + 6
        due("22: of two sets of two the least", y.pay(0, 11, 0), 12);
        due("22: two of each, 9", y.pay(0, 9, 0), 5);
    }

    /** HEAT is 2, 6, 11 by PLACE; NOTES 0 and 3 lie AT 2, 1 and 4 AT 1, 2 AT 0. */
    private static SnowMoney scattered() {
        SnowMoney x = places(0, 4, 9);
        x.note(0, 100, 2, 1);
        x.note(0, 100, 1, 1);
        x.note(0, 100, 0, 0);
        x.note(0, 100, 2, 0);
        x.note(0, 50, 1, 3);
        x.road(2, 1, 3);
        x.road(1, 0, 2);
        x.image();
        x.weather(5);
        return x;
    }

    /** Each NOTE by its own PLACE, and by WEATHER as it is now. */
    private static void byPlace() {
        SnowMoney x = scattered();
        int[] melts = {11, 6, 2, 11, 6};
        int[] left = {45, 70, 90, 45, 20};
        int[] above = {2, 9, 1, 2, 2};
        int[] below = {5, 10, 1, 5, 5};
        for (int i = 0; i < 5; i++) {
            due("7: by its PLACE, " + i, x.ofNote(i, 5), melts[i]);
            due("18: by its PLACE, " + i, x.then(5, i, 0), left[i]);
            due("18: by its PLACE, PAYS, " + i, x.then(5, i, 1), left[i]);
            due("21: wherever it lies, " + i, x.keep(i, 5, 0), 0);
            due("21: wherever it lies, SNOW, " + i, x.keep(i, 5, 1), i == 4 ? 40 : 90);
            due("28: by its PLACE, " + i, x.odds(i, 10, 0), above[i]);
            due("28: by its PLACE, below, " + i, x.odds(i, 10, 1), below[i]);
        }
        due("19: by their PLACES", x.first(0), 9);
        due("19: by their PLACES, which", x.first(1), 4);
        due("20: of OWNER 1", x.worth(1), 200);
        due("23: OWNER 1", x.lasts(1, 100), 5);
        due("23: OWNER 0", x.lasts(0, 100), 7);
        due("23: OWNER 3", x.lasts(3, 21), 4);
        due("24: by its PLACE", x.way(3, 0, 0), 100 - 33 - 12);
        x.road(2, 0, 4);
        due("24: by the straight ROAD", x.way(3, 0, 0), 100 - 44);
        due("24: from the other end", x.way(2, 2, 0), 100 - 8);
        due("26: OWNER 0", x.richest(5, 0), 0);
        due("26: behind 5", x.richest(5, 1), 90 + 45);
        due("27: all NOTES, by 1", x.warmer(1, 5), 40 + 65 + 85 + 40 + 15);
        put(x, 0, 8, 45, 70, 90, 45, 20, 5);
        due("25: as NOTE or BRIDAL", x.forgers(0, 0), 2);
        put(x, 0, 8, 35, 60, 80, 35, 10, 5);
        due("25: as FORGED", x.forgers(0, 1), 31);
        x.tell(414);
        x.tell(414 - 36);
        due("40: all NOTES", x.check(), 0);
        due("17: from its own PLACE", x.carry(4, 0), 50 - 12);
        due("17: from its own PLACE, 3", x.carry(3, 1), 100 - 33);
        due("17: AT", x.ofPlace(0, 1), 4 + 16);
        x.change(3, 0, 100);
        x.change(3, 1, 2);
        x.change(4, 0, 50);
        x.change(4, 1, 1);
        due("15: each by its PLACE", x.hours(1), 414);
        due("38: WEATHER is the IMAGE's", x.restore() + x.count(3), 2);
        due("18: by it", x.then(5, 0, 0), 100 - 40);
    }

    /** WARMTH and WEATHER are not alike for HEAT: 22 AT PLACE 0, 12 AT PLACE 1. */
    private static void unlikeNames() {
        SnowMoney x = places(3, 1);
        x.road(0, 1, 2);
        x.weather(7);
        x.note(0, 100, 0, 0);
        x.note(0, 100, 1, 1);
        text(x, 0, "w*5+y");
        due("7: WARMTH 3, WEATHER 7", x.ofNote(0, 5), 22);
        due("7: WARMTH 1, WEATHER 7", x.ofNote(1, 5), 12);
        due("18: WARMTH 3, WEATHER 7", x.then(2, 0, 0), 56);
        due("18: WARMTH 1, WEATHER 7", x.then(2, 1, 1), 76);
        due("19: WARMTH 3, WEATHER 7", x.first(0), 5);
        due("21: the colder PLACE", x.keep(0, 2, 0), 1);
        due("21: WARMTH 1, WEATHER 7", x.keep(0, 2, 1), 76);
        due("23: WARMTH 3, WEATHER 7", x.lasts(0, 50), 2);
        due("23: WARMTH 1, WEATHER 7", x.lasts(1, 50), 4);
        due("24: WARMTH 3, WEATHER 7", x.way(0, 1, 0), 56);
        put(x, 0, 16, 78, 88, 1);
        due("25: WARMTH 3 and 1, WEATHER 7", x.forgers(0, 0), 2);
        due("26: the OWNER of the colder one", x.richest(1, 0), 1);
        due("26: WARMTH 1, WEATHER 7", x.richest(1, 1), 88);
        due("27: WARMTH 3 and 1, WEATHER 7", x.warmer(0, 1), 166);
        due("27: WARMTH 4 and 2, WEATHER 7", x.warmer(1, 1), 73 + 83);
        due("28: WARMTH 3, WEATHER 0 to 4 of all, above", x.odds(0, 5, 0), 1);
        due("28: WARMTH 3, WEATHER 0 to 4 of all, below", x.odds(0, 5, 1), 2);
        x.tell(166);
        x.tell(132);
        due("40: WARMTH 3 and 1, WEATHER 7", x.check(), 0);
        due("15: WARMTH 3 and 1, WEATHER 7", x.hours(1), 166);
        due("17: WARMTH 3, WEATHER 7", x.carry(0, 1), 78 - 44);
        due("17: WARMTH 1, WEATHER 7", x.carry(0, 0), 34 - 24);
    }

    /** More NOTES than a SHEET has bits. */
    private static void tenOfEightBits() {
        SnowMoney x = heated(0, 0, 1);
        for (int i = 1; i < 10; i++) {
            x.note(0, i + 1, 0, 0);
        }
        put(x, 0, 8, 1, 2, 3, 4, 5, 6, 7, 8, 9, 10);
        due("36: ten of 8 bits", x.judge(0), -1);
        x.put(0, 9, 11);
        due("36: the tenth of 8 bits", x.judge(0), 9);
        x.put(0, 8, 8);
        due("36: the ninth of 8 bits", x.judge(0), 8);
        put(x, 0, 8, 1, 2, 3, 4, 5, 6, 7, 8, 9, 10, 11, 12);
        due("36: the eleventh of 8 bits", x.judge(0), 10);
        // behind 2, m 0: 4 less as FORGED, 8 less as DIRTY, 18 less as SALTED
        put(x, 0, 8, 1, 2, 3, 4, 5, 6, 7, 8, 9, 10, 2);
        due("25: ten of 8 bits, not FORGED", x.forgers(0, 1), 0);
        put(x, 0, 8, 0, 0, 0, 0, 1, 2, 3, 4, 5, 6, 2);
        due("25: ten of 8 bits, FORGED", x.forgers(0, 1), 1023);
        put(x, 0, 8, 0, 0, 0, 0, 0, 0, 0, 0, 1, 2, 2);
        due("25: ten of 8 bits, DIRTY", x.forgers(0, 1), 1023);
        due("25: ten of 8 bits, KINDS", x.forgers(0, 0), 1);
        due("35: ten of 8 bits", x.snows(0), 10);
        due("35: the tenth of 8 bits", x.ofNote(9, 2), 2);
    }

    /** Two NOTES that pay less go ahead of one that pays more, wherever it stands among them. */
    private static void payLeast() {
        int[][] rows = {{20, 5, 6}, {5, 20, 6}, {5, 6, 20}};
        int[] sets = {6, 5, 3};
        for (int i = 0; i < 3; i++) {
            SnowMoney x = heated(0, 0, rows[i][0]);
            x.note(0, rows[i][1], 0, 0);
            x.note(0, rows[i][2], 0, 0);
            due("22: two that pay less", x.pay(0, 11, 0), sets[i]);
            due("22: two that pay less, PAYS", x.pay(0, 11, 1), 11);
            due("22: one that pays more", x.pay(0, 12, 0), 7 - sets[i]);
            due("22: two with it", x.pay(0, 25, 1), 25);
            due("22: two with it, the other", x.pay(0, 26, 1), 26);
            due("22: all three", x.pay(0, 27, 0), 7);
        }
    }

    private static void payFull() {
        SnowMoney x = heated(0, 49, 999);
        for (int i = 1; i < 10; i++) {
            x.note(49, 999, 0, 0);
        }
        due("22: v 9999", x.pay(0, 9999, 0), 31);
        due("22: v 9999, PAYS", x.pay(0, 9999, 1), 10015);
        for (int i = 0; i < 10; i++) {
            x.become(i, 0);
        }
        due("22: ten of 999 don't pay 9999", x.pay(0, 9999, 0), NONE);
        due("22: ten of 999 pay 9990", x.pay(0, 9990, 0), 1023);
        due("22: but not 9991", x.pay(0, 9991, 0), NONE);
        due("22: nine of ten", x.pay(0, 8991, 0), 511);
        x.change(0, 0, 0);
        x.change(1, 0, 1);
        due("22: the last of them", x.pay(0, 7993, 0), 1022);
    }

    private static void lasts() {
        SnowMoney x = heated(1, 0, 60);
        due("23: v as WORTH now", x.lasts(0, 60), 0);
        due("23: one above", x.lasts(0, 61), NONE);
        due("23: one below", x.lasts(0, 59), 1);
        due("23: v 1, to behind 59", x.lasts(0, 1), 59);
        x.change(0, 0, 61);
        due("23: v 1, to behind 60", x.lasts(0, 1), 60);
        due("23: v 2, to behind 59", x.lasts(0, 2), 59);
        x.change(0, 0, 999);
        due("23: 60 is the greatest", x.lasts(0, 939), 60);
        due("23: just not 60", x.lasts(0, 940), 59);
        due("23: another OWNER has none", x.lasts(1, 1), NONE);
        x.note(20, 500, 0, 2);
        text(x, 1, "s=494");
        due("23: WORTH is less in between", x.lasts(2, 300), 1);
        due("23: and more again", x.then(3, 1, 1), 491);
        for (int i = 2; i < 10; i++) {
            x.note(49, 999, 0, 3);
        }
        text(x, 0, "0");
        due("23: v 9999", x.lasts(3, 9999), 60);
    }

    private static void way() {
        SnowMoney x = places(0, 0, 0, 0, 0, 0);
        x.note(0, 100, 3, 0);
        due("24: it is there", x.way(0, 3, 0), 100);
        due("24: it is there, next", x.way(0, 3, 1), 3);
        due("24: no way", x.way(0, 0, 0), NONE);
        x.road(3, 5, 9);
        x.road(5, 0, 1);
        due("24: by two ROADS", x.way(0, 0, 0), 100);
        due("24: by two ROADS, next", x.way(0, 0, 1), 5);
        x.road(3, 0, 9);
        due("24: of several the first", x.way(0, 0, 1), 0);
        text(x, 0, "1");
        due("24: the shorter", x.way(0, 0, 0), 91);
        x.road(3, 4, 1);
        x.road(4, 2, 1);
        x.road(2, 1, 1);
        x.road(1, 5, 1);
        due("24: through all PLACES", x.way(0, 0, 0), 95);
        due("24: through all PLACES, next", x.way(0, 0, 1), 4);
        x.road(0, 3, 6);
        due("24: just worse", x.way(0, 0, 1), 4);
        x.road(0, 3, 5);
        due("24: alike, the first", x.way(0, 0, 1), 0);
        x.road(0, 3, 4);
        due("24: just better", x.way(0, 0, 0), 96);
        x.change(0, 0, 3);
        due("24: 0 at least", x.way(0, 0, 0), 0);
        due("24: there is a way, though all melts", x.way(0, 5, 1), 0);
        x.change(0, 0, 0);
        due("24: a GONE one goes, too", x.way(0, 0, 0), 0);
        due("24: a GONE one is there", x.way(0, 3, 0), 0);
        due("24: it is AT its PLACE still", x.ofNote(0, 3), 3);
        SnowMoney y = places(1, 9, 1, 1);
        y.weather(3);
        y.note(0, 50, 0, 0);
        y.road(0, 1, 1);
        y.road(1, 3, 1);
        y.road(0, 2, 2);
        y.road(2, 3, 3);
        due("24: it melts by where it lies on the way", y.way(0, 3, 0), 50 - 2 - 3);
        due("24: past the warm PLACE", y.way(0, 3, 1), 2);
        due("24: to the warm PLACE itself", y.way(0, 1, 0), 49);
        SnowMoney z = places(0, 0, 0, 0);
        z.note(0, 50, 1, 0);
        z.road(1, 0, 1);
        z.road(1, 2, 1);
        z.road(2, 3, 1);
        due("24: back by where it was is no way", z.way(0, 3, 1), 2);
        z.road(0, 3, 1);
        due("24: nothing melts, the first", z.way(0, 3, 1), 0);
    }

    private static void forgers() {
        SnowMoney x = heated(0, 39, 100);
        put(x, 3, 8, 100, 0);
        due("25: SHEET 3, behind 0", x.forgers(3, 0), 7);
        due("25: SHEET 3, behind 0, the set", x.forgers(3, 1), 1);
        // HEAT 0, m 9, behind 1: FORGED 98, DIRTY 96, SALTED 100 as NOTE, DUCAL, BRIDAL, ROYAL
        put(x, 0, 16, 100, 1);
        due("25: five KINDS", x.forgers(0, 0), 5);
        due("25: none of them FORGED", x.forgers(0, 1), 0);
        put(x, 0, 16, 98, 1);
        due("25: FORGED alone", x.forgers(0, 0), 1);
        due("25: FORGED", x.forgers(0, 1), 1);
        put(x, 0, 16, 96, 1);
        due("25: DIRTY alone", x.forgers(0, 0), 1);
        due("25: DIRTY, under FORGED", x.forgers(0, 1), 1);
        put(x, 0, 16, 99, 1);
        due("25: none can be", x.forgers(0, 0), 0);
        due("25: none can be, the set", x.forgers(0, 1), 0);
        // behind 25: FORGED 50, DIRTY 0; behind 50: FORGED 0 and DIRTY 0; behind 60 too
        put(x, 0, 16, 0, 25);
        due("25: just GONE", x.forgers(0, 0), 1);
        put(x, 0, 16, 0, 24);
        due("25: not yet GONE", x.forgers(0, 0), 0);
        put(x, 0, 16, 0, 60);
        due("25: behind 60", x.forgers(0, 0), 2);
        put(x, 0, 16, 0, 61);
        due("25: behind 61", x.forgers(0, 0), NONE);
        x.become(0, 30);
        put(x, 0, 16, 91, 1);
        due("25: with its m: SALTED of 0", x.forgers(0, 0), 1);
        for (int i = 1; i < 10; i++) {
            x.note(0, 100, 0, 0);
        }
        put(x, 0, 16, 98, 96, 100, 98, 96, 100, 98, 96, 100, 98, 1);
        due("25: ten NOTES", x.forgers(0, 0), 1);
        due("25: ten NOTES, the set", x.forgers(0, 1), 1023 - 4 - 32 - 256);
        put(x, 0, 16, 98, 96, 100, 98, 96, 100, 98, 96, 100, 97, 1);
        due("25: the last can be none", x.forgers(0, 0), 0);
        due("25: the last can be none, the set", x.forgers(0, 1), 1023 - 4 - 32 - 256 - 512);
        x.sheet(0, 16, 40);
        due("25: a full SHEET has too many", x.forgers(0, 0), NONE);
        due("25: only thought", x.ofNote(0, 0), 3);
    }

    private static void richest() {
        SnowMoney x = new SnowMoney();
        due("26: of no NOTES the first OWNER", x.richest(60, 0), 0);
        due("26: of no NOTES", x.richest(60, 1), 0);
        x.place(4);
        x.note(0, 61, 0, 3);
        text(x, 0, "1");
        due("26: OWNER 3", x.richest(0, 0), 3);
        due("26: behind 60", x.richest(60, 1), 1);
        due("26: OWNER 3 behind 60", x.richest(60, 0), 3);
        x.change(0, 0, 60);
        due("26: nothing is left behind 60", x.richest(60, 0), 0);
        due("26: nothing is left behind 60, how much", x.richest(60, 1), 0);
        x.note(0, 60, 0, 2);
        due("26: of several the least", x.richest(5, 0), 2);
        x.change(1, 0, 59);
        due("26: one less", x.richest(5, 0), 3);
        x.note(10, 30, 0, 1);
        due("26: by what it PAYS", x.richest(0, 0), 1);
        due("26: half of 1 melts nothing", x.richest(60, 1), 60);
        for (int i = 3; i < 10; i++) {
            x.note(49, 999, 0, 0);
        }
        due("26: the most", x.richest(60, 1), 7 * 2003);
    }

    private static void warmer() {
        SnowMoney x = places(9);
        x.weather(3);
        x.note(0, 999, 0, 0);
        due("27: v 0", x.warmer(0, 1), 990);
        due("27: v 1 is above 9", x.warmer(1, 1), 989);
        due("27: v 9", x.warmer(9, 1), 981);
        due("27: behind 0", x.warmer(9, 0), 999);
        due("27: behind 60", x.warmer(0, 60), 999 - 540);
        due("27: behind 60, 0 at least", x.warmer(9, 60), 0);
        text(x, 0, "w*6");
        due("27: HEAT is held at 99", x.warmer(9, 1), 900);
        text(x, 0, "w>9");
        due("27: the TEXT sees what is above 9", x.warmer(1, 1), 998);
        due("27: WARMTH stays", x.ofPlace(0, 0), 9);
        x.place(0);
        x.note(0, 500, 1, 1);
        text(x, 0, "w");
        due("27: each PLACE", x.warmer(2, 1), 999 - 11 + 500 - 2);
    }

    private static void odds() {
        int[] above = {0, 1, 1, 3, 2, 1, 3, 7, 4, 9, 1};
        int[] below = {1, 10, 5, 10, 5, 2, 5, 10, 5, 10, 1};
        for (int good = 0; good <= 10; good++) {
            SnowMoney x = heated(0, 0, 60);
            text(x, 0, "(y>" + good + "|y=" + good + ")*99");
            due("28: " + good + " of ten, above", x.odds(0, 1, 0), above[good]);
            due("28: " + good + " of ten, below", x.odds(0, 1, 1), below[good]);
            due("28: behind 0 always, above", x.odds(0, 0, 0), 1);
            due("28: behind 0 always, below", x.odds(0, 0, 1), 1);
        }
        SnowMoney x = heated(0, 0, 60);
        text(x, 0, "y");
        due("28: behind 60 with WEATHER 0 alone", x.odds(0, 60, 0), 1);
        due("28: behind 60 with WEATHER 0 alone, below", x.odds(0, 60, 1), 10);
        x.change(0, 0, 61);
        due("28: and with WEATHER 1", x.odds(0, 60, 1), 5);
        x.change(0, 0, 0);
        due("28: a GONE one", x.odds(0, 0, 0), 0);
        due("28: a GONE one, below", x.odds(0, 0, 1), 1);
        due("28: WEATHER stays", x.count(3), 2);
    }

    // ---- 29 to 42: draws, voices, sheets, images, what is told

    private static void seedAndVoice() {
        SnowMoney x = places(0);
        for (int v : new int[] {MIN, MAX, 0, -1, BEYOND}) {
            x.seed(v);
            due("29: any number", x.seed(1), v);
        }
        due("29: no ERROR", x.told(1), 0);
        x.note(9, 5, 0, 0);
        x.note(1, 5, 0, 0);
        due("30: 10 wraps", x.voice(1, 0, MAX), MIN);
        due("30: 11 wraps", x.voice(0, 1, 1 << 30), MIN);
        due("30: 12 wraps", x.voice(1, 2, MIN), MAX);
        x.become(1, 11);
        due("30: 20 wraps", x.voice(1, 0, MAX - 1), MAX - 2);
        x.become(0, 30);
        due("30: 40 of MIN", x.voice(0, 2, MIN), MIN);
        x.become(0, 50);
        due("30: 60 wraps", x.voice(0, 1, MAX), MIN * 2 - 1);
        x.become(0, 21);
        due("30: 30 takes pays(1)", x.voice(0, 1, MIN), 0);
        due("30: the last m", x.become(0, 29) + x.voice(0, 2, 0), 2 - 9);
        x.become(0, 30);
        due("30: any number, as an ERROR too", x.voice(0, 2, -BEYOND), BEYOND);
        due("30: which is none", x.told(1), 0);
        for (int i = 2; i < 10; i++) {
            x.note(60, 5, 0, 0);
        }
        due("30: 70 of the last NOTE", x.voice(9, 2, 4), -4 ^ 9);
        due("30: 71 of the last NOTE", x.voice(9, 3, 4), 26 - (26 ^ (-4 ^ 9)));
        x.change(9, 0, 0);
        due("30: a GONE one has a VOICE", x.voice(9, 0, 4), 13);
    }

    /** Each VOICE of each KIND, with number 2, m 3, x 5. */
    private static void voices() {
        int[][] values = {
            {7, 14, 2, 14 ^ 2},
            {21, 42, 2, 42 ^ 2},
            {7, 16, 2, 16 ^ 2},
            {7, 14, -2, 14 ^ -2},
            {21, 42, 2, (42 ^ 2) - 12},
            {7, 18, 2, 18 ^ 2},
            {7, 14, -2 ^ 2, 14 - (14 ^ (-2 ^ 2))},
        };
        String[][] bodies = {
            {"10", "11 10", "12", "13 11 10 12"},
            {"20 10", "11 20 10", "12", "13 11 20 10 12"},
            {"10", "30 11 10 12", "12", "13 30 11 10 12 12"},
            {"10", "11 10", "40 12", "13 11 10 40 12"},
            {"20 10", "11 20 10", "12", "50 13 11 20 10 12 20 10"},
            {"10", "60 30 11 10 12", "12", "13 60 30 11 10 12 12"},
            {"10", "11 10", "70 40 12", "71 11 10 13 11 10 70 40 12"},
        };
        SnowMoney x = places(0);
        for (int i = 0; i < 3; i++) {
            x.note(0, 5, 0, 0);
        }
        for (int kind = 0; kind <= 6; kind++) {
            x.become(2, 10 * kind + 3);
            for (int act = 0; act <= 3; act++) {
                due("30: KIND " + kind + ", act " + act, x.voice(2, act, 5), values[kind][act]);
                String[] want = bodies[kind][act].split(" ");
                due("31: KIND " + kind + ", act " + act + ", how many", x.count(8), want.length);
                for (int i = 0; i < want.length; i++) {
                    due("31: KIND " + kind + ", act " + act + ", " + i, x.trace(i), Integer.parseInt(want[i]));
                }
            }
        }
    }

    private static void trace() {
        SnowMoney x = places(0);
        x.note(60, 5, 0, 0);
        due("31: none yet", x.trace(0), NONE);
        x.voice(0, 3, 1);
        int[] bodies = {71, 11, 10, 13, 11, 10, 70, 40, 12};
        due("41: BODIES", x.count(8), bodies.length);
        for (int i = 0; i < bodies.length; i++) {
            due("31: BODY " + i, x.trace(i), bodies[i]);
        }
        due("31: none behind the last", x.trace(9), NONE);
        due("31: none ahead of the first", x.trace(-1), NONE);
        x.voice(0, 0, 1);
        due("31: of the latest voice() alone", x.count(8), 1);
        due("31: the latest", x.trace(0), 10);
        due("31: none of the one ahead", x.trace(1), NONE);
        x.voice(1, 3, 1);
        due("31: a refused one leaves it", x.trace(0), 10);
        x.become(0, 0);
        due("31: become() leaves it", x.trace(0), 10);
    }

    private static void sheets() {
        SnowMoney x = places(0);
        x.note(0, 5, 0, 0);
        for (int sheet = 0; sheet < 4; sheet++) {
            due("32: SHEET " + sheet, x.sheet(sheet, 32, 40), 1);
            due("33: the first", x.put(sheet, 0, 10 + sheet), 1);
            due("33: the last", x.put(sheet, 39, 20 + sheet), 1);
            due("33: behind the last", x.put(sheet, 40, 1), BEYOND);
        }
        for (int sheet = 0; sheet < 4; sheet++) {
            x.snows(sheet);
            due("33: each SHEET for itself", x.ofNote(0, 2), 10 + sheet);
            x.move(sheet, 39, sheet, 0, 1);
            x.snows(sheet);
            due("33: its last", x.ofNote(0, 2), 20 + sheet);
        }
        due("32: anew", x.sheet(0, 32, 40), 1);
        x.snows(0);
        due("32: all 0, the first", x.ofNote(0, 2), 0);
        x.change(0, 0, 5);
        x.move(0, 39, 0, 0, 1);
        x.snows(0);
        due("32: all 0, the last", x.ofNote(0, 2), 0);
        due("32: of no numbers", x.sheet(0, 8, 0), 1);
        due("35: no numbers", x.snows(0), 0);
        for (int n : new int[] {MIN, -1, 0, 40, 41, MAX}) {
            x.sheet(0, 8, 1);
            due("32: missing, n " + n, x.sheet(0, 0, n), 1);
            due("32: missing it is, n " + n, x.snows(0), NONE);
        }
        lowestBits();
    }

    private static int putAndTold(int bits, int v) {
        SnowMoney x = places(0);
        x.note(0, 5, 0, 0);
        put(x, 0, bits, v);
        return x.snows(0) == 1 ? x.ofNote(0, 2) : -1;
    }

    private static void lowestBits() {
        due("33: 8 bits, 0", putAndTold(8, 0), 0);
        due("33: 8 bits, 127", putAndTold(8, 127), 127);
        due("33: 8 bits, 256", putAndTold(8, 256), 0);
        due("33: 8 bits, 256 + 127", putAndTold(8, 256 + 127), 127);
        due("33: 8 bits, 1 - 256", putAndTold(8, 1 - 256), 1);
        due("33: 8 bits, MIN", putAndTold(8, MIN), 0);
        due("33: 8 bits, MAX is -1", putAndTold(8, MAX), -1);
        due("33: 16 bits, 999", putAndTold(16, 999), 999);
        due("33: 16 bits, 1000", putAndTold(16, 1000), -1);
        due("33: 16 bits, 65536", putAndTold(16, 65536), 0);
        due("33: 16 bits, 65536 + 999", putAndTold(16, 65536 + 999), 999);
        due("33: 16 bits, 1 - 65536", putAndTold(16, 1 - 65536), 1);
        due("33: 16 bits, 256", putAndTold(16, 256), 256);
        due("33: 16 bits, -1", putAndTold(16, -1), -1);
        due("33: 32 bits, 999", putAndTold(32, 999), 999);
        due("33: 32 bits, 1000", putAndTold(32, 1000), -1);
        due("33: 32 bits, 65536", putAndTold(32, 65536), -1);
        due("33: 32 bits, -1", putAndTold(32, -1), -1);
        due("33: 32 bits, MIN", putAndTold(32, MIN), -1);
    }

    private static void move() {
        SnowMoney x = places(0);
        for (int i = 0; i < 10; i++) {
            x.note(0, 1, 0, 0);
        }
        for (int bits : new int[] {8, 16, 32}) {
            put(x, 0, bits, 0, 1, 2, 3, 4, 5, 6, 7, 8, 9);
            due("34: none", x.move(0, 10, 0, 10, 0), 0);
            due("34: all onto themselves", x.move(0, 0, 0, 0, 10), 10);
            due("34: up by one, as they all were", x.move(0, 0, 0, 1, 9), 9);
            paid(x, "34: up by one", 0, 0, 1, 2, 3, 4, 5, 6, 7, 8);
            due("34: down by one, as they all were", x.move(0, 1, 0, 0, 9), 9);
            paid(x, "34: down by one", 0, 1, 2, 3, 4, 5, 6, 7, 8, 8);
            due("34: the last to the first", x.move(0, 9, 0, 0, 1), 1);
            paid(x, "34: the last to the first", 8, 1, 2, 3, 4, 5, 6, 7, 8, 8);
            put(x, 3, bits, 97, 98, 99);
            due("34: all of another", x.move(3, 0, 0, 7, 3), 3);
            paid(x, "34: all of another", 8, 1, 2, 3, 4, 5, 6, 97, 98, 99);
            due("34: to another", x.move(0, 1, 3, 2, 1), 1);
            x.move(3, 2, 0, 0, 1);
            paid(x, "34: to another", 1, 1, 2, 3, 4, 5, 6, 97, 98, 99);
        }
        x.sheet(1, 8, 40);
        x.sheet(2, 8, 40);
        x.put(1, 39, 7);
        due("34: forty", x.move(1, 0, 2, 0, 40), 40);
        due("34: forty and one", x.move(1, 0, 2, 0, 41), BEYOND);
        due("34: from 39 on one", x.move(2, 39, 2, 0, 1), 1);
        x.snows(2);
        due("34: the fortieth", x.ofNote(0, 2), 7);
    }

    /** SHEET 0 tells what ten NOTES of KIND 0 pay once SHEET 0 has become their SNOW, and it is these. */
    private static void paid(SnowMoney x, String what, int... numbers) {
        due(what + ": how many", x.snows(0), 10);
        for (int i = 0; i < 10; i++) {
            due(what + ": " + i, x.ofNote(i, 2), numbers[i]);
        }
    }

    private static void snows() {
        SnowMoney x = places(0);
        put(x, 0, 32, 5, 6);
        due("35: no NOTES", x.snows(0), 0);
        for (int i = 0; i < 10; i++) {
            x.note(0, 50, 0, 0);
        }
        due("35: fewer than NOTES", x.snows(0), 2);
        due("35: those behind stay", x.ofNote(2, 2), 50);
        put(x, 1, 16, 0, 999, 0, 1, 2, 3, 4, 5, 6, 7);
        due("35: as many as NOTES", x.snows(1), 10);
        due("35: 0 goes", x.ofNote(0, 2), 0);
        due("35: 999 goes", x.ofNote(1, 2), 999);
        due("35: the last goes", x.ofNote(9, 2), 7);
        put(x, 1, 16, 11, 12, 13, 14, 15, 16, 17, 18, 19, 20, 21);
        due("35: more than NOTES", x.snows(1), 10);
        due("35: the last of the NOTES", x.ofNote(9, 2), 20);
        put(x, 1, 16, 31, 32, 1000, 34);
        due("35: up to 1000", x.snows(1), 2);
        due("35: ahead of 1000", x.ofNote(1, 2), 32);
        due("35: 1000 doesn't go", x.ofNote(2, 2), 13);
        due("35: behind 1000 none goes", x.ofNote(3, 2), 14);
        put(x, 1, 16, 41, -1, 43);
        due("35: up to -1", x.snows(1), 1);
        due("35: -1 doesn't go", x.ofNote(1, 2), 32);
        put(x, 1, 32, MIN);
        due("35: MIN", x.snows(1), 0);
        put(x, 1, 32, MAX);
        due("35: MAX", x.snows(1), 0);
        for (int k = 1; k <= 5; k++) {
            due("35: no ERROR then, " + k, x.told(k), 0);
        }
        x.sheet(3, 8, 40);
        due("35: a full SHEET", x.snows(3), 10);
        due("35: all GONE", x.count(5), 10);
    }

    private static void judge() {
        SnowMoney x = places(0);
        x.sheet(0, 8, 0);
        due("36: none and none", x.judge(0), -1);
        x.sheet(0, 8, 1);
        due("36: one too many of no NOTES", x.judge(0), 0);
        for (int i = 0; i < 10; i++) {
            x.note(49, 990 + i, 0, 0);
        }
        int[] pays = {1985, 1987, 1989, 1991, 1993, 1995, 1997, 1999, 2001, 2003};
        put(x, 0, 16, pays);
        due("36: all ten", x.judge(0), -1);
        x.put(0, 9, 2002);
        due("36: the last isn't so", x.judge(0), 9);
        x.put(0, 0, 1984);
        due("36: the first isn't so", x.judge(0), 0);
        put(x, 0, 16, 1985, 1987, 1989, 1991, 1993, 1995, 1997, 1999, 2001);
        due("36: the last lacks", x.judge(0), 9);
        put(x, 0, 16, 1985, 1987, 1989, 1991, 1993, 1995, 1997, 1999, 2001, 2003, 0);
        due("36: one is too many", x.judge(0), 10);
        x.sheet(0, 32, 0);
        due("36: all lack", x.judge(0), 0);
        put(x, 0, 8, 1985, 1987);
        due("36: bits that are lost", x.judge(0), 0);
        put(x, 0, 32, 1985, MIN);
        due("36: MIN", x.judge(0), 1);
        due("36: no ERROR", x.told(1) + x.told(2), 0);
    }

    private static void images() {
        SnowMoney x = new SnowMoney();
        due("37: an empty one", x.image(), 1);
        x.place(3);
        x.note(0, 5, 0, 0);
        x.tell(1);
        x.feed('1', 1);
        x.hours(7);
        due("38: HOUR 0", x.restore(), 0);
        int[] counts = {0, 0, 0, 2, 0, 0, 0, 0, 0, 1};
        for (int what = 0; what <= 9; what++) {
            due("38: empty again, count(" + what + ")", x.count(what), counts[what]);
        }
        due("38: numbers go on from the IMAGE", x.place(5), 0);
        due("38: WARMTH is the new one's", x.ofPlace(0, 0), 5);
        x.place(0);
        due("38: ROADS are the IMAGE's", x.road(0, 1, 3), 0);
        x.hours(60);
        due("37: in place of one ahead", x.image(), 2);
        x.hours(1);
        x.road(0, 1, 5);
        due("38: HOUR", x.restore(), 60);
        due("38: a ROAD, both ways", x.road(1, 0, 3), 3);
        x.road(0, 1, 5);
        due("38: it stays", x.restore(), 60);
        due("38: the ROAD again", x.road(0, 1, 3), 3);
        due("38: how often stays", x.image(), 3);
        for (int i = 2; i < 6; i++) {
            x.place(i);
        }
        for (int i = 0; i < 10; i++) {
            x.note(7 * i, 900 + i, i % 6, i % 4);
        }
        for (int i = 0; i < 20; i++) {
            x.tell(i);
        }
        for (int i = 0; i < 25; i++) {
            x.feed(0x2B31, 2);
        }
        x.seed(MIN);
        x.weather(9);
        due("37: a full one", x.image(), 4);
        for (int i = 0; i < 10; i++) {
            x.become(i, 0);
            x.change(i, 0, 1);
            x.change(i, 1, 0);
            x.change(i, 2, 0);
        }
        x.check();
        x.text(0);
        x.loose(3);
        due("38: a full one", x.restore(), 60);
        for (int i = 0; i < 10; i++) {
            int[] of = {7 * i / 10, 7 * i % 10, 900 + i, i % 6, i % 4};
            for (int what = 0; what <= 4; what++) {
                due("38: NOTE " + i + ", what " + what, x.ofNote(i, what), of[what]);
            }
        }
        int[] full = {6, 10, 60, 9, 9045, 0, 50, 20, 0, MIN};
        for (int what = 0; what <= 9; what++) {
            due("38: a full one, count(" + what + ")", x.count(what), full[what]);
        }
    }

    /** Six PLACES with a WARMTH each, and all ROADS between them. */
    private static void imageOfRoads() {
        SnowMoney x = places(9, 8, 7, 6, 5, 4);
        x.note(0, 999, 0, 0);
        text(x, 0, "1");
        for (int p = 0; p < 6; p++) {
            for (int q = 0; q < p; q++) {
                x.road(p, q, 1 + (3 * p + q) % 9);
            }
        }
        x.image();
        for (int p = 0; p < 6; p++) {
            x.warm(p, 0);
            for (int q = 0; q < p; q++) {
                x.road(p, q, p % 2 * 9);
            }
        }
        x.restore();
        for (int p = 0; p < 6; p++) {
            due("38: WARMTH of PLACE " + p, x.ofPlace(p, 0), 9 - p);
            for (int q = 0; q < p; q++) {
                int h = 1 + (3 * p + q) % 9;
                x.change(0, 0, 999);
                x.change(0, 1, q);
                due("38: ROAD " + q + " to " + p, x.carry(0, p), 999 - h);
                due("38: ROAD " + p + " to " + q, x.carry(0, q), 999 - 2 * h);
            }
        }
        x.restore();
        for (int p = 0; p < 6; p++) {
            for (int q = 0; q < p; q++) {
                due("38: ROAD between " + p + " and " + q, x.road(q, p, 0), 1 + (3 * p + q) % 9);
            }
        }
    }

    /** TEXTS of both USES and THE TAPE, of 50 bytes each: all of them is kept, the last byte too. */
    private static void imageOfFullTexts() {
        String[] full = {"w" + "+1".repeat(22) + "+10+y", "!s" + "+0".repeat(23) + "+m", "!h" + "+2".repeat(23) + "+w"};
        SnowMoney x = new SnowMoney();
        due("13: 50 bytes of HEAT", text(x, 0, full[0]), 1);
        due("13: 50 bytes of FOUND", text(x, 1, full[1]), 1);
        for (int i = 0; i < 50; i++) {
            x.feed(full[2].charAt(i), 1);
        }
        x.image();
        x.text(0);
        text(x, 1, "0" + "+o".repeat(24));
        for (int i = 0; i < 50; i++) {
            x.feed('?', 1);
        }
        x.restore();
        due("38: HEAT of 50 bytes", x.law(0, 2, 30, 0), 2 + 32 + 30);
        due("38: FOUND of 50 bytes, its last byte", x.law(1, 1, 1, 0), 1);
        due("38: FOUND of 50 bytes, 0", x.law(1, 1, 0, 1), 0);
        due("38: FOUND of 50 bytes, its first byte", x.law(1, 0, 0, 0), 1);
        due("38: THE TAPE of 50 bytes", x.text(0), 1);
        due("38: THE TAPE of 50 bytes, worked out", x.law(0, 20, 0, 0), 1 + 46 + 20);
        due("38: THE TAPE of 50 bytes, its first NAME", x.law(0, 20, 0, 5), 46 + 20);
        x.restore();
        due("38: HEAT of 50 bytes again", x.law(0, 2, 30, 0), 2 + 32 + 30);
    }

    /** TEXTS and THE TAPE are kept, and what waits; SHEETS, THE TRACE and what is told are not. */
    private static void imageAndTexts() {
        SnowMoney x = places(0);
        x.note(0, 10, 0, 0);
        x.image();
        text(x, 0, "w");
        text(x, 1, "1");
        x.restore();
        due("38: no TEXT of HEAT again", x.law(0, 9, 9, 9), 15);
        due("38: no TEXT of FOUND again", x.law(1, 9, 9, 9), 0);
        text(x, 0, "1+1+1+1+1+1+1+1+1+1+1+1+1+1+1+1+1+1+1+1+1+1+1+1+10");
        text(x, 1, "m*s");
        x.feed('7', 1);
        x.tell(0);
        x.image();
        text(x, 0, "w");
        text(x, 1, "0");
        x.tell(0);
        x.tell(9);
        x.check();
        x.sheet(2, 8, 1);
        x.voice(0, 0, 0);
        x.count(10);
        x.restore();
        due("38: HEAT", x.law(0, 9, 9, 9), 34);
        due("38: FOUND", x.law(1, 1, 1, 9), 1);
        due("38: FOUND of 0", x.law(1, 0, 1, 9), 0);
        due("38: one waits", x.count(7), 1);
        due("38: it is so", x.check(), 0);
        due("38: THE TAPE", x.text(0), 1);
        due("38: THE TAPE's TEXT", x.law(0, 0, 0, 0), 7);
        due("38: THE TRACE is no part of it", x.count(8), 1);
        due("38: SHEETS are no part of it", x.put(2, 0, 1), 1);
        due("38: told() is no part of it", x.told(1), 1);
        x.sheet(2, 0, 0);
        x.restore();
        due("38: a SHEET that is missing stays so", x.put(2, 0, 1), NONE);
    }

    private static void tellAndCheck() {
        SnowMoney x = heated(1, 0, 20);
        due("40: none wait", x.check(), 0);
        for (int i = 1; i <= 20; i++) {
            due("39: " + i, x.tell(20 - i), i);
        }
        due("39: 20 are all", x.tell(0), FULL);
        due("40: all twenty are so", x.check(), 0);
        due("40: none wait then", x.count(7), 0);
        for (int i = 1; i <= 20; i++) {
            x.tell(i == 20 ? 1 : 20 - i);
        }
        due("40: the twentieth isn't so", x.check(), 20);
        due("40: none wait then, either", x.count(7), 0);
        due("39: room again", x.tell(20), 1);
        due("40: behind 1, not behind 0", x.check(), 1);
        x.tell(19);
        x.tell(19);
        x.tell(19);
        due("40: 1 and the place of the first", x.check(), 2);
        x.tell(MAX);
        due("40: MAX", x.check(), 1);
        x.note(0, 20, 0, 1);
        x.tell(38);
        due("40: of all NOTES", x.check(), 0);
        due("40: only thought", x.count(4), 40);
        SnowMoney y = new SnowMoney();
        y.tell(0);
        y.tell(0);
        due("40: of no NOTES", y.check(), 0);
    }

    /** What waits is kept, too, though other numbers have waited since. */
    private static void imageAndWaiting() {
        SnowMoney x = heated(1, 0, 20);
        for (int i = 1; i <= 20; i++) {
            x.tell(20 - i);
        }
        x.image();
        x.check();
        for (int i = 1; i <= 20; i++) {
            x.tell(-i);
        }
        x.restore();
        due("38: 20 wait", x.tell(0), FULL);
        due("38: they are the IMAGE's", x.check(), 0);
        x.tell(7);
        x.restore();
        x.check();
        x.tell(0);
        x.image();
        due("40: the IMAGE stays", x.check(), 1);
        due("38: one waits", x.restore(), 0);
        due("38: one waits, which isn't so", x.check(), 1);
        due("38: none waits then", x.count(7), 0);
    }

    private static void told() {
        SnowMoney x = places(0, 0, 0, 0, 0, 0);
        x.note(0, 5, 0, 0);
        int[] want = {0, 0, 0, 0, 0, 0};
        for (int round = 1; round <= 30; round++) {
            due("42: BEYOND", x.place(10), BEYOND);
            due("42: NONE", x.restore(), NONE);
            due("42: STATE", x.carry(0, 1), STATE);
            due("42: FULL", x.place(1), FULL);
            due("42: KIND", x.as(0, 3), BEYOND - 4);
            for (int k = 1; k <= 5; k++) {
                want[k]++;
                due("42: told(" + k + ")", x.told(k), want[k]);
            }
            due("42: another k", x.told(round % 2 == 0 ? 0 : 6), BEYOND);
            want[1]++;
        }
    }
}
