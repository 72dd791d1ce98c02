import java.util.ArrayList;
import java.util.List;
import java.util.function.Supplier;

/**
 * Refused calls. Two objects are made alike; one gets the refused call. Its answer must be the ERROR that is asked
 * first; told() must tell one more of it alone; and all that can be seen of both must be the same, IMAGE and THE TAPE
 * and what waits too. No object gets more than 512 calls.
 */
public final class RefusedTest {
    private static final int LOW = -1000000000;
    private static final int BEYOND = 1;
    private static final int NONE = 2;
    private static final int STATE = 3;
    private static final int FULL = 4;
    private static final int KIND = 5;
    private static final int MIN = Integer.MIN_VALUE;
    private static final int MAX = Integer.MAX_VALUE;
    private static int wrong = 0;

    private RefusedTest() {
    }

    private interface Act {
        int on(SnowMoney x);
    }

    private interface ActBy {
        int on(SnowMoney x, int v);
    }

    private static void need(boolean good, String what) {
        if (!good) {
            wrong++;
            System.out.println(what);
        }
    }

    public static void main(String[] args) {
        placesAndRoads();
        notes();
        texts();
        hours();
        carrying();
        thinking();
        searching();
        forging();
        voices();
        sheets();
        moving();
        imagesAndTelling();
        System.out.println(wrong == 0 ? "every refused call is refused as due" : wrong + " are not as due");
        if (wrong != 0) {
            System.exit(1);
        }
    }

    // ---- what is asked of a refused call

    private static void refused(String what, Supplier<SnowMoney> made, Act act, int error) {
        SnowMoney one = made.get();
        SnowMoney other = made.get();
        int got = act.on(one);
        need(got == LOW - error, what + " answered " + got + ", due is " + (LOW - error));
        for (int k = 1; k <= 5; k++) {
            int more = one.told(k) - other.told(k);
            need(more == (k == error ? 1 : 0), what + ": told(" + k + ") is more by " + more);
        }
        need(seen(one).equals(seen(other)), what + " changed what can be seen");
    }

    /** What is least and most goes, what is next to them and the outermost ints are BEYOND. */
    private static void within(String what, Supplier<SnowMoney> made, int least, int most, ActBy act) {
        for (int v : new int[] {least, most}) {
            int got = act.on(made.get(), v);
            need(got != LOW - BEYOND, what + " " + v + " is BEYOND");
        }
        for (int v : new int[] {least - 1, most + 1, MIN, MAX}) {
            refused(what + " " + v, made, x -> act.on(x, v), BEYOND);
        }
    }

    /** All that calls tell of an object, in a row. It is another one afterwards. */
    private static List<Integer> seen(SnowMoney x) {
        List<Integer> all = new ArrayList<>();
        seeDuchy(x, all);
        seeRoadsAndLaws(x, all);
        all.add(x.check());
        for (int sheet = 0; sheet < 4; sheet++) {
            seeSheet(x, sheet, all);
        }
        all.add(x.text(0));
        all.add(x.law(0, 5, 7, 9));
        all.add(x.restore());
        seeDuchy(x, all);
        seeRoadsAndLaws(x, all);
        all.add(x.check());
        all.add(x.text(1));
        all.add(x.law(1, 1, 2, 3));
        all.add(x.image());
        return all;
    }

    private static void seeDuchy(SnowMoney x, List<Integer> all) {
        for (int what = 0; what <= 9; what++) {
            all.add(x.count(what));
        }
        for (int i = 0; i < x.count(8); i++) {
            all.add(x.trace(i));
        }
        for (int p = 0; p < x.count(0); p++) {
            all.add(x.ofPlace(p, 0));
        }
        for (int i = 0; i < x.count(1); i++) {
            for (int what = 0; what <= 4; what++) {
                all.add(x.ofNote(i, what));
            }
        }
    }

    private static void seeRoadsAndLaws(SnowMoney x, List<Integer> all) {
        for (int p = 0; p < x.count(0); p++) {
            for (int q = 0; q < p; q++) {
                all.add(x.road(p, q, 0));
            }
        }
        all.add(x.law(0, 5, 7, 9));
        all.add(x.law(0, 1, 2, 20));
        all.add(x.law(1, 4, 7, 2));
        all.add(x.law(1, 30, 2, 1));
    }

    /** Each number comes to the front, and from there it becomes SNOW of NOTE 0. */
    private static void seeSheet(SnowMoney x, int sheet, List<Integer> all) {
        all.add(x.judge(sheet));
        for (int i = 0; i < 6 && x.move(sheet, i, sheet, 0, 1) == 1; i++) {
            all.add(x.snows(sheet));
            all.add(x.ofNote(0, 2));
        }
    }

    // ---- what they are asked of

    private static void tape(SnowMoney x, String s) {
        for (int i = 0; i < s.length(); i += 8) {
            long word = 0;
            int n = Math.min(8, s.length() - i);
            for (int j = n - 1; j >= 0; j--) {
                word = word << 8 | s.charAt(i + j);
            }
            x.feed(word, n);
        }
    }

    private static void put(SnowMoney x, int sheet, int bits, int... numbers) {
        x.sheet(sheet, bits, numbers.length);
        for (int i = 0; i < numbers.length; i++) {
            x.put(sheet, i, numbers[i]);
        }
    }

    /** Three PLACES, four NOTES, of each OWNER one; room for more of all. */
    private static SnowMoney village() {
        SnowMoney x = new SnowMoney();
        x.place(4);
        x.place(9);
        x.place(0);
        x.road(0, 1, 2);
        x.note(4, 60, 0, 0);
        x.note(14, 30, 1, 1);
        x.tell(99);
        x.image();
        x.road(1, 2, 3);
        x.note(65, 40, 2, 2);
        x.note(25, 50, 0, 3);
        x.weather(3);
        x.hours(1);
        x.seed(77);
        tape(x, "w*2+h");
        x.text(0);
        tape(x, "s<m+o");
        x.text(1);
        tape(x, "w+y*3");
        x.tell(70);
        x.tell(7);
        put(x, 0, 8, 5, 6, 7);
        put(x, 1, 16, 60, 30, 40, 50, 0);
        put(x, 2, 16);
        x.voice(2, 3, 1);
        x.count(10);
        return x;
    }

    /** As many of all as there can be. */
    private static SnowMoney town() {
        SnowMoney x = village();
        for (int i = 0; i < 3; i++) {
            x.place(i);
        }
        for (int i = 0; i < 6; i++) {
            x.note(11 * i, 20 + i, i, i % 4);
        }
        tape(x, "+1+1+1+1+1+1+1+1+1+1+1+1+1+1+1+1+1+1+1+1+1+10");
        for (int i = 0; i < 18; i++) {
            x.tell(i);
        }
        need(x.count(0) == 6 && x.count(1) == 10 && x.count(6) == 50 && x.count(7) == 20, "the town is not full");
        return x;
    }

    /** Nothing but HOURS that have passed. */
    private static SnowMoney late(int hour) {
        SnowMoney x = new SnowMoney();
        x.place(4);
        x.note(0, 900, 0, 0);
        x.image();
        tape(x, "0");
        x.text(0);
        tape(x, "y+1");
        x.tell(900);
        for (int i = 0; i < 166; i++) {
            x.hours(60);
        }
        for (int i = 9960; i < hour; i++) {
            x.hours(1);
        }
        return x;
    }

    // ---- by promise

    private static void placesAndRoads() {
        within("2: WARMTH", RefusedTest::village, 0, 9, SnowMoney::place);
        refused("2: a seventh", RefusedTest::town, x -> x.place(3), FULL);
        refused("2: BEYOND ahead of FULL", RefusedTest::town, x -> x.place(10), BEYOND);

        within("3: PLACE", RefusedTest::village, 0, 2, (x, v) -> x.warm(v, 4));
        within("3: v", RefusedTest::village, 0, 9, (x, v) -> x.warm(1, v));
        refused("3: no PLACES", SnowMoney::new, x -> x.warm(0, 4), BEYOND);
        refused("3: PLACE 6 in a full one", RefusedTest::town, x -> x.warm(6, 4), BEYOND);

        within("4: PLACE", RefusedTest::village, 0, 2, (x, v) -> x.ofPlace(v, 0));
        within("4: PLACE of a set", RefusedTest::village, 0, 2, (x, v) -> x.ofPlace(v, 1));
        within("4: what", RefusedTest::village, 0, 1, (x, v) -> x.ofPlace(1, v));
        refused("4: no PLACES", SnowMoney::new, x -> x.ofPlace(0, 0), BEYOND);
        refused("4: PLACE 6 in a full one", RefusedTest::town, x -> x.ofPlace(6, 1), BEYOND);

        within("5: one, other than 0", RefusedTest::village, 1, 2, (x, v) -> x.road(v, 0, 5));
        within("5: other, other than 0", RefusedTest::village, 1, 2, (x, v) -> x.road(0, v, 5));
        within("5: one, other than 2", RefusedTest::village, 0, 1, (x, v) -> x.road(v, 2, 5));
        within("5: other, other than 2", RefusedTest::village, 0, 1, (x, v) -> x.road(2, v, 5));
        refused("5: one 3", RefusedTest::village, x -> x.road(3, 1, 5), BEYOND);
        refused("5: other 3", RefusedTest::village, x -> x.road(1, 3, 5), BEYOND);
        refused("5: one and the same", RefusedTest::village, x -> x.road(1, 1, 5), BEYOND);
        refused("5: one and the same, none", RefusedTest::village, x -> x.road(1, 1, 0), BEYOND);
        refused("5: one and the same, and no PLACE", RefusedTest::village, x -> x.road(-1, -1, 5), BEYOND);
        within("5: h", RefusedTest::village, 0, 9, (x, v) -> x.road(0, 2, v));
        within("5: h in place of another", RefusedTest::village, 0, 9, (x, v) -> x.road(1, 0, v));
        refused("5: PLACE 6 in a full one", RefusedTest::town, x -> x.road(5, 6, 5), BEYOND);
    }

    private static void notes() {
        within("6: km", RefusedTest::village, 0, 69, (x, v) -> x.note(v, 5, 0, 0));
        within("6: SNOW", RefusedTest::village, 1, 999, (x, v) -> x.note(0, v, 0, 0));
        within("6: PLACE", RefusedTest::village, 0, 2, (x, v) -> x.note(0, 5, v, 0));
        within("6: OWNER", RefusedTest::village, 0, 3, (x, v) -> x.note(0, 5, 0, v));
        refused("6: no PLACES", SnowMoney::new, x -> x.note(0, 5, 0, 0), BEYOND);
        refused("6: an eleventh", RefusedTest::town, x -> x.note(0, 5, 0, 0), FULL);
        refused("6: km, ahead of FULL", RefusedTest::town, x -> x.note(70, 5, 0, 0), BEYOND);
        refused("6: SNOW, ahead of FULL", RefusedTest::town, x -> x.note(0, 0, 0, 0), BEYOND);
        refused("6: PLACE, ahead of FULL", RefusedTest::town, x -> x.note(0, 5, 6, 0), BEYOND);
        refused("6: OWNER, ahead of FULL", RefusedTest::town, x -> x.note(0, 5, 0, 4), BEYOND);

        within("7: what", RefusedTest::village, 0, 6, (x, v) -> x.ofNote(0, v));
        for (int what = 0; what <= 6; what++) {
            int w = what;
            within("7: NOTE, what " + w, RefusedTest::village, 0, 3, (x, v) -> x.ofNote(v, w));
        }
        refused("7: NOTE 10 in a full one", RefusedTest::town, x -> x.ofNote(10, 0), BEYOND);
        refused("7: no NOTES", SnowMoney::new, x -> x.ofNote(0, 0), BEYOND);

        within("8: what", RefusedTest::village, 0, 2, (x, v) -> x.change(1, v, 2));
        within("8: SNOW", RefusedTest::village, 0, 999, (x, v) -> x.change(1, 0, v));
        within("8: AT", RefusedTest::village, 0, 2, (x, v) -> x.change(1, 1, v));
        within("8: OWNER", RefusedTest::village, 0, 3, (x, v) -> x.change(1, 2, v));
        for (int what = 0; what <= 2; what++) {
            int w = what;
            within("8: NOTE, what " + w, RefusedTest::village, 0, 3, (x, v) -> x.change(v, w, 1));
        }
        refused("8: NOTE 10 in a full one", RefusedTest::town, x -> x.change(10, 0, 1), BEYOND);

        within("9: NOTE", RefusedTest::village, 0, 3, (x, v) -> x.become(v, 33));
        within("9: km", RefusedTest::village, 0, 69, (x, v) -> x.become(1, v));
        refused("9: NOTE 10 in a full one", RefusedTest::town, x -> x.become(10, 0), BEYOND);

        within("10: NOTE", RefusedTest::village, 0, 3, (x, v) -> x.as(v, 0));
        within("10: KIND", RefusedTest::village, 0, 6, (x, v) -> x.as(2, v));
        refused("10: a NOTE as a DUCAL", RefusedTest::village, x -> x.as(0, 1), KIND);
        refused("10: a DUCAL as a ROYAL", RefusedTest::village, x -> x.as(1, 4), KIND);
        refused("10: a SALTED as a FORGED", RefusedTest::village, x -> x.as(2, 2), KIND);
        refused("10: BEYOND of NOTE, ahead of KIND", RefusedTest::village, x -> x.as(4, 6), BEYOND);
        refused("10: BEYOND of KIND, ahead of KIND", RefusedTest::village, x -> x.as(0, 7), BEYOND);

        within("11: WEATHER", RefusedTest::village, 0, 9, SnowMoney::weather);
    }

    private static void texts() {
        within("12: n", RefusedTest::village, 1, 8, (x, v) -> x.feed(0x3131313131313131L, v));
        refused("12: FULL", RefusedTest::town, x -> x.feed('1', 1), FULL);
        refused("12: n 0, ahead of FULL", RefusedTest::town, x -> x.feed('1', 0), BEYOND);
        refused("12: n 9, ahead of FULL", RefusedTest::town, x -> x.feed('1', 9), BEYOND);
        Supplier<SnowMoney> fewLeft = () -> {
            SnowMoney x = village();
            tape(x, "+1+1+1+1+1+1+1+1+1+1+1+1+1+1+1+1+1+1+1");
            need(x.count(6) == 43, "not 43 bytes");
            return x;
        };
        refused("12: eight don't come where seven fit", fewLeft, x -> x.feed(0x3131313131313131L, 8), FULL);
        need(fewLeft.get().feed(0x3131313131313131L, 7) == 50, "12: seven fit");

        within("13: use", RefusedTest::village, 0, 1, SnowMoney::text);
        refused("13: THE TAPE stays, empty", SnowMoney::new, x -> x.text(2), BEYOND);
        refused("13: THE TAPE stays, full", RefusedTest::town, x -> x.text(-1), BEYOND);
        within("14: use", RefusedTest::village, 0, 1, (x, v) -> x.law(v, 1, 2, 3));
    }

    private static void hours() {
        within("15: n", RefusedTest::village, 1, 60, SnowMoney::hours);
        within("16: n", RefusedTest::village, 1, 40, SnowMoney::loose);
        refused("15: HOUR 9999 by 1", () -> late(9999), x -> x.hours(1), STATE);
        refused("15: HOUR 9999 by 60", () -> late(9999), x -> x.hours(60), STATE);
        refused("15: HOUR 9970 by 30", () -> late(9970), x -> x.hours(30), STATE);
        refused("15: n 61, ahead of STATE", () -> late(9999), x -> x.hours(61), BEYOND);
        refused("15: n 0, ahead of STATE", () -> late(9999), x -> x.hours(0), BEYOND);
        refused("15: n MAX, ahead of STATE", () -> late(9999), x -> x.hours(MAX), BEYOND);
        refused("16: HOUR 9999 by 1", () -> late(9999), x -> x.loose(1), STATE);
        refused("16: HOUR 9999 by 40", () -> late(9999), x -> x.loose(40), STATE);
        refused("16: HOUR 9970 by 30", () -> late(9970), x -> x.loose(30), STATE);
        refused("16: n 41, ahead of STATE", () -> late(9999), x -> x.loose(41), BEYOND);
        refused("16: n 0, ahead of STATE", () -> late(9999), x -> x.loose(0), BEYOND);
        need(late(9970).hours(29) == 900, "15: HOUR 9970 by 29");
        need(late(9970).loose(29) == 900, "16: HOUR 9970 by 29");
    }

    private static void carrying() {
        within("17: NOTE", RefusedTest::village, 0, 3, (x, v) -> x.carry(v, 1));
        for (int place : new int[] {-1, 3, MIN, MAX}) {
            refused("17: PLACE " + place, RefusedTest::village, x -> x.carry(0, place), BEYOND);
        }
        refused("17: there is no ROAD", RefusedTest::village, x -> x.carry(0, 2), STATE);
        refused("17: it is AT it", RefusedTest::village, x -> x.carry(0, 0), STATE);
        refused("17: the ROAD was taken away", () -> {
            SnowMoney x = village();
            x.road(0, 1, 0);
            return x;
        }, x -> x.carry(0, 1), STATE);
        refused("17: NOTE, ahead of STATE", RefusedTest::village, x -> x.carry(4, 2), BEYOND);
        refused("17: PLACE 6 in a full one", RefusedTest::town, x -> x.carry(0, 6), BEYOND);
    }

    private static void thinking() {
        for (int what = 0; what <= 1; what++) {
            int w = what;
            within("18: n, what " + w, RefusedTest::village, 0, 60, (x, v) -> x.then(v, 0, w));
            within("18: NOTE, what " + w, RefusedTest::village, 0, 3, (x, v) -> x.then(3, v, w));
            within("21: NOTE, what " + w, RefusedTest::village, 0, 3, (x, v) -> x.keep(v, 5, w));
            within("21: n, what " + w, RefusedTest::village, 0, 60, (x, v) -> x.keep(0, v, w));
            within("26: n, what " + w, RefusedTest::village, 0, 60, (x, v) -> x.richest(v, w));
            within("28: NOTE, part " + w, RefusedTest::village, 0, 3, (x, v) -> x.odds(v, 5, w));
            within("28: n, part " + w, RefusedTest::village, 0, 60, (x, v) -> x.odds(0, v, w));
        }
        within("18: what", RefusedTest::village, 0, 1, (x, v) -> x.then(3, 0, v));
        within("20: OWNER", RefusedTest::village, 0, 3, SnowMoney::worth);
        within("21: what", RefusedTest::village, 0, 1, (x, v) -> x.keep(0, 5, v));
        within("26: what", RefusedTest::village, 0, 1, (x, v) -> x.richest(5, v));
        within("27: v", RefusedTest::village, 0, 9, (x, v) -> x.warmer(v, 5));
        within("27: n", RefusedTest::village, 0, 60, (x, v) -> x.warmer(5, v));
        within("28: part", RefusedTest::village, 0, 1, (x, v) -> x.odds(0, 5, v));
        refused("18: no NOTES", SnowMoney::new, x -> x.then(0, 0, 0), BEYOND);
        refused("21: no NOTES", SnowMoney::new, x -> x.keep(0, 0, 0), BEYOND);
        refused("28: no NOTES", SnowMoney::new, x -> x.odds(0, 0, 0), BEYOND);
    }

    private static void searching() {
        within("19: what", RefusedTest::village, 0, 1, SnowMoney::first);
        refused("19: no NOTES", SnowMoney::new, x -> x.first(0), NONE);
        refused("19: not by 60", () -> late(9960), x -> x.first(0), NONE);
        refused("19: not by 60, which", () -> late(9960), x -> x.first(1), NONE);
        refused("19: BEYOND ahead of NONE", SnowMoney::new, x -> x.first(2), BEYOND);

        for (int what = 0; what <= 1; what++) {
            int w = what;
            within("22: OWNER, what " + w, RefusedTest::village, 0, 3, (x, v) -> x.pay(v, 1, w));
            within("22: v, what " + w, RefusedTest::village, 1, 9999, (x, v) -> x.pay(0, v, w));
            refused("22: not by all, what " + w, RefusedTest::village, x -> x.pay(0, 9999, w), NONE);
            refused("22: no NOTES, what " + w, SnowMoney::new, x -> x.pay(0, 1, w), NONE);
            within("24: NOTE, what " + w, RefusedTest::village, 0, 3, (x, v) -> x.way(v, 2, w));
            within("24: PLACE, what " + w, RefusedTest::village, 0, 2, (x, v) -> x.way(0, v, w));
            refused("24: no way, what " + w, RefusedTest::town, x -> x.way(0, 5, w), NONE);
        }
        within("22: what", RefusedTest::village, 0, 1, (x, v) -> x.pay(0, 1, v));
        refused("22: OWNER, ahead of NONE", SnowMoney::new, x -> x.pay(4, 1, 0), BEYOND);
        refused("22: v, ahead of NONE", SnowMoney::new, x -> x.pay(0, 0, 0), BEYOND);
        refused("22: what, ahead of NONE", SnowMoney::new, x -> x.pay(0, 1, 2), BEYOND);

        within("23: OWNER", RefusedTest::village, 0, 3, (x, v) -> x.lasts(v, 1));
        within("23: v", RefusedTest::village, 1, 9999, (x, v) -> x.lasts(0, v));
        refused("23: WORTH is less now", RefusedTest::village, x -> x.lasts(0, 9999), NONE);
        refused("23: no NOTES", SnowMoney::new, x -> x.lasts(0, 1), NONE);
        refused("23: OWNER, ahead of NONE", SnowMoney::new, x -> x.lasts(-1, 1), BEYOND);
        refused("23: v, ahead of NONE", SnowMoney::new, x -> x.lasts(0, 10000), BEYOND);

        within("24: what", RefusedTest::village, 0, 1, (x, v) -> x.way(0, 2, v));
        refused("24: what, ahead of NONE", RefusedTest::town, x -> x.way(0, 5, 2), BEYOND);
        refused("24: NOTE, ahead of NONE", RefusedTest::town, x -> x.way(10, 5, 0), BEYOND);
        refused("24: PLACE 6 in a full one", RefusedTest::town, x -> x.way(0, 6, 0), BEYOND);
        refused("24: no NOTES", SnowMoney::new, x -> x.way(0, 0, 0), BEYOND);
    }

    private static Supplier<SnowMoney> villageWith(int... numbers) {
        return () -> {
            SnowMoney x = village();
            put(x, 0, 16, numbers);
            return x;
        };
    }

    private static void forging() {
        for (int what = 0; what <= 1; what++) {
            int w = what;
            within("25: SHEET, what " + w, RefusedTest::village, 0, 3, (x, v) -> x.forgers(v, w));
            refused("25: missing, what " + w, RefusedTest::village, x -> x.forgers(3, w), NONE);
            refused("25: one too few, what " + w, villageWith(60, 30, 40, 50), x -> x.forgers(0, w), NONE);
            refused("25: one too many, what " + w, villageWith(60, 30, 40, 50, 0, 0), x -> x.forgers(0, w), NONE);
            refused("25: empty, what " + w, villageWith(), x -> x.forgers(0, w), NONE);
            refused("25: last is 61, what " + w, villageWith(60, 30, 40, 50, 61), x -> x.forgers(0, w), NONE);
            refused("25: last is -1, what " + w, villageWith(60, 30, 40, 50, -1), x -> x.forgers(0, w), NONE);
        }
        within("25: what", RefusedTest::village, 0, 1, (x, v) -> x.forgers(1, v));
        within("25: what, ahead of NONE", RefusedTest::village, 0, 1, (x, v) -> x.forgers(3, v));
        refused("25: SHEET, ahead of NONE", SnowMoney::new, x -> x.forgers(4, 0), BEYOND);
        refused("25: no NOTES", () -> {
            SnowMoney x = new SnowMoney();
            put(x, 0, 8, 0);
            return x;
        }, x -> x.forgers(0, 0), NONE);
        SnowMoney x = village();
        put(x, 1, 16, x.ofNote(0, 2), x.ofNote(1, 2), x.ofNote(2, 2), x.ofNote(3, 2), 0);
        need(x.forgers(1, 0) == 7 && x.forgers(1, 1) == 15, "25: last is 0");
        need(villageWith(0, 0, 0, 0, 60).get().forgers(0, 0) > 0, "25: last is 60");
    }

    private static void voices() {
        within("30: NOTE", RefusedTest::village, 0, 3, (x, v) -> x.voice(v, 3, 5));
        within("30: act", RefusedTest::village, 0, 3, (x, v) -> x.voice(1, v, 5));
        refused("30: NOTE 10 in a full one", RefusedTest::town, x -> x.voice(10, 0, 5), BEYOND);
        refused("30: no NOTES", SnowMoney::new, x -> x.voice(0, 0, 5), BEYOND);

        // SALTED rings by nine BODIES
        need(village().trace(0) == 71, "31: the first");
        need(village().trace(8) == 12, "31: the last");
        for (int i : new int[] {-1, 9, 39, 40, 41, MIN, MAX}) {
            refused("31: " + i, RefusedTest::village, x -> x.trace(i), NONE);
        }
        refused("31: there is no TRACE", SnowMoney::new, x -> x.trace(0), NONE);
    }

    private static void sheets() {
        within("32: SHEET", RefusedTest::village, 0, 3, (x, v) -> x.sheet(v, 16, 3));
        for (int bits : new int[] {-8, -1, 1, 7, 9, 15, 17, 24, 31, 33, 64, 256 + 8, MIN, MAX}) {
            refused("32: bits " + bits, RefusedTest::village, x -> x.sheet(0, bits, 3), BEYOND);
            refused("32: bits " + bits + ", ahead of STATE", RefusedTest::village, x -> x.sheet(0, bits, -1), BEYOND);
        }
        refused("32: SHEET 4, ahead of STATE", RefusedTest::village, x -> x.sheet(4, 8, -1), BEYOND);
        refused("32: SHEET -1, ahead of STATE", RefusedTest::village, x -> x.sheet(-1, 8, MIN), BEYOND);
        refused("32: SHEET 4, to be missing", RefusedTest::village, x -> x.sheet(4, 0, 0), BEYOND);
        for (int bits : new int[] {8, 16, 32}) {
            refused("32: n -1", RefusedTest::village, x -> x.sheet(0, bits, -1), STATE);
            refused("32: n MIN", RefusedTest::village, x -> x.sheet(3, bits, MIN), STATE);
            refused("32: n 41", RefusedTest::village, x -> x.sheet(0, bits, 41), BEYOND);
            refused("32: n MAX", RefusedTest::village, x -> x.sheet(3, bits, MAX), BEYOND);
            need(village().sheet(0, bits, 0) == 1, "32: n 0");
            need(village().sheet(0, bits, 40) == 1, "32: n 40");
        }

        within("33: SHEET", RefusedTest::village, 0, 3, (x, v) -> x.put(v, 0, 5));
        refused("33: SHEET -1", RefusedTest::village, x -> x.put(-1, 0, 5), BEYOND);
        refused("33: SHEET 4, and no such number", RefusedTest::village, x -> x.put(4, -1, 5), BEYOND);
        refused("33: missing", RefusedTest::village, x -> x.put(3, 0, 5), NONE);
        refused("33: missing, ahead of the number", RefusedTest::village, x -> x.put(3, -1, 5), NONE);
        within("33: number", RefusedTest::village, 0, 2, (x, v) -> x.put(0, v, 5));
        refused("33: an empty SHEET has none", RefusedTest::village, x -> x.put(2, 0, 5), BEYOND);

        for (int sheet : new int[] {-1, 4, MIN, MAX}) {
            refused("35: SHEET " + sheet, RefusedTest::village, x -> x.snows(sheet), BEYOND);
            refused("36: SHEET " + sheet, RefusedTest::village, x -> x.judge(sheet), BEYOND);
        }
        for (int sheet = 0; sheet < 4; sheet++) {
            int s = sheet;
            refused("35: missing " + s, SnowMoney::new, x -> x.snows(s), NONE);
            refused("36: missing " + s, SnowMoney::new, x -> x.judge(s), NONE);
        }
        refused("35: missing", RefusedTest::village, x -> x.snows(3), NONE);
        refused("36: missing", RefusedTest::village, x -> x.judge(3), NONE);
    }

    /** In the village SHEET 0 has 3 numbers of 8 bits, 1 has 5 of 16, 2 none of 16; 3 is missing. */
    private static void moving() {
        for (int sheet : new int[] {-1, 4, MIN, MAX}) {
            refused("34: SHEET " + sheet, RefusedTest::village, x -> x.move(sheet, 0, 0, 0, 1), BEYOND);
            refused("34: other " + sheet, RefusedTest::village, x -> x.move(0, 0, sheet, 0, 1), BEYOND);
            refused("34: SHEET ahead of NONE " + sheet, RefusedTest::village, x -> x.move(sheet, 0, 3, 0, 1), BEYOND);
            refused("34: other ahead of NONE " + sheet, RefusedTest::village, x -> x.move(3, 0, sheet, 0, 1), BEYOND);
        }
        refused("34: one is missing", RefusedTest::village, x -> x.move(3, 0, 0, 0, 0), NONE);
        refused("34: the other is missing", RefusedTest::village, x -> x.move(0, 0, 3, 0, 0), NONE);
        refused("34: both are", RefusedTest::village, x -> x.move(3, 0, 3, 0, 0), NONE);
        refused("34: NONE ahead of BEYOND", RefusedTest::village, x -> x.move(0, -1, 3, -1, -1), NONE);
        refused("34: unlike bits", RefusedTest::village, x -> x.move(0, 0, 1, 0, 1), KIND);
        refused("34: unlike bits, back", RefusedTest::village, x -> x.move(1, 0, 0, 0, 1), KIND);
        refused("34: unlike bits, none moved", RefusedTest::village, x -> x.move(0, 0, 2, 0, 0), KIND);
        refused("34: KIND ahead of BEYOND", RefusedTest::village, x -> x.move(0, -1, 1, 99, -1), KIND);
        for (int v : new int[] {-1, MIN}) {
            refused("34: n " + v, RefusedTest::village, x -> x.move(1, 0, 1, 0, v), BEYOND);
            refused("34: i " + v, RefusedTest::village, x -> x.move(1, v, 1, 0, 1), BEYOND);
            refused("34: j " + v, RefusedTest::village, x -> x.move(1, 0, 1, v, 1), BEYOND);
            refused("34: i " + v + ", none moved", RefusedTest::village, x -> x.move(1, v, 1, 0, 0), BEYOND);
            refused("34: j " + v + ", none moved", RefusedTest::village, x -> x.move(1, 0, 1, v, 0), BEYOND);
        }
        int[][] outside = {{5, 0, 1}, {4, 0, 2}, {0, 5, 1}, {0, 4, 2}, {0, 0, 6}, {1, 0, 5}, {0, 1, 5}, {MAX, 0, 1},
            {0, MAX, 1}, {0, 0, MAX}, {1, 1, MAX}, {MAX, MAX, MAX}, {MAX, 0, MAX}, {0, MAX, MAX}};
        for (int[] o : outside) {
            refused("34: they don't stand there " + o[0] + ", " + o[1] + ", " + o[2], RefusedTest::village,
                x -> x.move(1, o[0], 1, o[1], o[2]), BEYOND);
        }
        refused("34: an empty one has none", RefusedTest::village, x -> x.move(2, 0, 1, 0, 1), BEYOND);
        refused("34: to an empty one none goes", RefusedTest::village, x -> x.move(1, 0, 2, 0, 1), BEYOND);
        need(village().move(2, 0, 1, 5, 0) == 0, "34: none of an empty one to the end of another");
        need(village().move(1, 4, 1, 0, 1) == 1, "34: the last one");
        need(village().move(1, 0, 1, 4, 1) == 1, "34: to the last one");
        need(village().move(1, 0, 1, 0, 5) == 5, "34: all");
    }

    private static void imagesAndTelling() {
        refused("38: there is no IMAGE", SnowMoney::new, x -> x.restore(), NONE);
        refused("39: 20 wait", RefusedTest::town, x -> x.tell(0), FULL);
        refused("39: 20 wait, MIN", RefusedTest::town, x -> x.tell(MIN), FULL);
        within("41: what", RefusedTest::village, 0, 9, SnowMoney::count);
        within("42: k", RefusedTest::village, 1, 5, SnowMoney::told);
        refused("42: k 0 on a new object", SnowMoney::new, x -> x.told(0), BEYOND);
        refused("42: k LOW - 1", SnowMoney::new, x -> x.told(LOW - 1), BEYOND);
    }
}
