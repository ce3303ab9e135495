import java.util.Arrays;
import java.util.function.Consumer;
import java.util.function.ToLongFunction;

/**
 * Each refused call, on one of two objects that are alike: its answer, what status() counts, what goes and what stays.
 * The seed can't be asked, so both objects are taken on by it and must be alike behind that, too.
 */
public final class RefusalsTest {
    private static final int NONE = FoolTrade.NONE;
    private static final int NOT_COUNTED = -1;
    private static final int KINDS = 6;
    private static final String LAND = "village a harvest 100 quarrel 5;village b harvest 80 quarrel 9;";
    private static final String PEOPLE = "person p of a wits 3 oath 2 cheer 6;person q of a wits 4 oath 5 cheer 1;"
        + "person r of b wits 1 oath 4 cheer 8;person s of b wits 9 oath 0 cheer 2;";
    private static final String TREATY = LAND + PEOPLE + "does wits-3;fights quarrel+guests;stays away<2;snow 50;";
    private static final Trial TRIAL = new Trial();

    public static void main(String[] args) {
        feed();
        end();
        treaty();
        see();
        teach();
        bring();
        calm();
        years();
        undo();
        seed();
        on();
        asked();
        wrongQueries();
        sixKinds();
        TRIAL.end("RefusalsTest");
    }

    /** No treaty, twenty bytes on the tape. */
    private static void bare(FoolTrade t) {
        t.feed(1, 2, 3, 4, 5);
    }

    /** Something of all that can be lost: people abroad, years kept, rows seen, acts, an image, a fault, a tape. */
    private static void rich(FoolTrade t) {
        Trial.treaty(t, TREATY);
        t.seed(77);
        t.years(3);
        t.teach(1, 0);
        t.bring(3);
        t.calm(0);
        Trial.see(t, 0, 0, 0, t.village(0, 0), 1, 1, 0, t.later(1, 1, 0));
        t.image();
        Trial.ask(t, "total x");
        t.feed(1, 2, 3, 4, 5);
    }

    private static void lastYear(FoolTrade t) {
        Trial.treaty(t, TREATY);
        int[] row = Trial.imageOf(t);
        row[0] = 3;
        row[1] = 231;
        Trial.on(t, Trial.checked(row));
        t.teach(0, 9);
        t.feed(1, 2, 3, 4, 5);
    }

    /** The call is refused and counted, all stays, the tape too. */
    private static void stays(String call, int kind, Consumer<FoolTrade> ahead, ToLongFunction<FoolTrade> refused, long answer) {
        FoolTrade one = new FoolTrade();
        FoolTrade other = new FoolTrade();
        ahead.accept(one);
        ahead.accept(other);
        TRIAL.due(call, refused.applyAsLong(one), answer);
        counted(call, kind, one, other);
        TRIAL.due(call, View.fault(one), View.fault(other));
        TRIAL.due(call, View.of(one), View.of(other));
        TRIAL.due("feed() behind " + call, one.feed(0, 0, 0, 0, 0), other.feed(0, 0, 0, 0, 0));
        goesOn(call, one, other);
    }

    /** The call takes these bytes of the tape, is refused and counted, and all but the tape stays; the fault is the one told. */
    private static void tapeGoes(String call, int kind, Consumer<FoolTrade> ahead, byte[] bytes, ToLongFunction<FoolTrade> refused, long answer, String fault) {
        FoolTrade one = new FoolTrade();
        FoolTrade other = new FoolTrade();
        ahead.accept(one);
        ahead.accept(other);
        Trial.feed(one, bytes);
        TRIAL.due(call, refused.applyAsLong(one), answer);
        counted(call, kind, one, other);
        TRIAL.due(call, View.fault(one), fault == null ? View.fault(other) : fault);
        TRIAL.due(call, View.of(one), View.of(other));
        TRIAL.due("end(1) behind " + call + ": the tape is empty", one.end(1), false);
        TRIAL.due("feed() behind " + call + ": the tape is empty", one.feed(0, 0, 0, 0, 0), 20);
        goesOn(call, one, other);
    }

    private static void counted(String call, int kind, FoolTrade one, FoolTrade other) {
        for (int what = 0; what < KINDS; what++) {
            TRIAL.due("status(" + what + ") behind " + call, one.status(what), other.status(what) + (what == kind ? 1 : 0));
        }
    }

    private static void goesOn(String call, FoolTrade one, FoolTrade other) {
        TRIAL.due("chance(9) behind " + call, one.chance(9), other.chance(9));
        TRIAL.due("chance(9) behind " + call, View.of(one), View.of(other));
        TRIAL.due("undo() behind " + call, one.undo(), other.undo());
        TRIAL.due("undo() behind " + call, View.of(one), View.of(other));
    }

    private static long bit(boolean b) {
        return b ? 1 : 0;
    }

    private static void feed() {
        TRIAL.about("feed: NONE, refused (0), if there would be more than 1600");
        for (int length : new int[] {1581, 1582, 1599, 1600}) {
            Consumer<FoolTrade> full = t -> {
                rich(t);
                Trial.feed(t, new byte[length]);
            };
            stays("feed() behind " + length + " bytes", 0, full, t -> t.feed(9, 9, 9, 9, 9), NONE);
        }
        FoolTrade t = new FoolTrade();
        String text = TREATY + " ".repeat(1600 - TREATY.length());
        Trial.feed(t, Trial.bytes(text));
        TRIAL.due("feed() behind 1600 bytes", t.feed(-1, -1, -1, -1, -1), NONE);
        TRIAL.due("end(1600) behind it", t.end(1600), true);
        TRIAL.due("treaty() of the 1600 bytes that stayed", t.treaty(), 10);
    }

    private static void end() {
        TRIAL.about("end: false, refused (0), if it has not so many, or n is below 0");
        for (int n : new int[] {21, 22, 1600, 1601, Integer.MAX_VALUE, -1, -20, Integer.MIN_VALUE}) {
            stays("end(" + n + ") of 20 bytes", 0, RefusalsTest::rich, t -> bit(t.end(n)), 0);
        }
        stays("end(1) of none", 0, t -> Trial.treaty(t, TREATY), t -> bit(t.end(1)), 0);
        FoolTrade t = new FoolTrade();
        Trial.feed(t, Trial.bytes(LAND));
        t.end(LAND.length() + 1);
        t.end(-1);
        TRIAL.due("treaty() of the bytes that stayed", t.treaty(), 2);
    }

    private static void treaty() {
        TRIAL.about("treaty: NONE, refused (1), with a FAULT (all stays; the tape goes)");
        Object[] faults = {
            "", "1 at 0", "  ", "1 at 2", "village a harvest 1 quarrel 1;", "1 at 30", "village a harvest 1000", "2 at 18",
            LAND + "person a", "3 at 70", LAND + "sends (((((((", "4 at 75", LAND + "does 1;does 2;", "5 at 70", TREATY + "x", "1 at " + TREATY.length()};
        for (int i = 0; i < faults.length; i += 2) {
            byte[] bytes = Trial.bytes((String) faults[i]);
            tapeGoes("treaty() of '" + faults[i] + "'", 1, RefusalsTest::rich, bytes, FoolTrade::treaty, NONE, (String) faults[i + 1]);
            tapeGoes("a first treaty() of '" + faults[i] + "'", 1, RefusalsTest::bare, bytes, FoolTrade::treaty, NONE, (String) faults[i + 1]);
        }
    }

    private static void see() {
        TRIAL.about("see: NONE, refused (1), all staying, when it is none such (harvests above 999, too), or without a treaty");
        int[][] none = {{}, {0}, {0, 0}, {0, 0, 0}, {0, 0, 0, 0, 0}, {1, 0, 0, 7, 1, 0, 0}, new int[65], new int[67], new int[68], new int[72],
            {31, 0, 0, 7}, {255, 0, 0, 7}, {1, 2, 0, 7}, {1, 255, 0, 7}, {1, 0, 3, 232}, {1, 0, 4, 0}, {1, 1, 255, 255},
            {1, 0, 0, 7, 31, 0, 0, 7}, {1, 0, 0, 7, 0, 2, 0, 7}, {1, 0, 0, 7, 0, 0, 3, 232}};
        for (int[] row : none) {
            tapeGoes("see() of " + Arrays.toString(row), 1, RefusalsTest::rich, Trial.octets(row), FoolTrade::see, NONE, null);
        }
        tapeGoes("see() without a treaty", 1, RefusalsTest::bare, Trial.octets(0, 0, 0, 7), FoolTrade::see, NONE, null);
    }

    private static void teach() {
        TRIAL.about("teach: false, refused (2), when he has these wits, there is none such, or for others");
        stays("teach() of wits that he has", 2, RefusalsTest::rich, t -> bit(t.teach(1, 0)), 0);
        stays("teach() of wits that he has", 2, RefusalsTest::rich, t -> bit(t.teach(3, 9)), 0);
        for (int wits : new int[] {-1, 10, 255, Integer.MIN_VALUE, Integer.MAX_VALUE}) {
            stays("teach(0, " + wits + ")", 2, RefusalsTest::rich, t -> bit(t.teach(0, wits)), 0);
        }
        for (int person : new int[] {-1, 4, 8, Integer.MIN_VALUE, Integer.MAX_VALUE}) {
            stays("teach(" + person + ", 5)", 2, RefusalsTest::rich, t -> bit(t.teach(person, 5)), 0);
        }
        stays("teach() without a treaty", 2, RefusalsTest::bare, t -> bit(t.teach(0, 5)), 0);
    }

    private static void bring() {
        TRIAL.about("bring: NONE, refused (2), when there is none such");
        for (int person : new int[] {-1, 4, 8, Integer.MIN_VALUE, Integer.MAX_VALUE}) {
            stays("bring(" + person + ")", 2, RefusalsTest::rich, t -> t.bring(person), NONE);
        }
        stays("bring() without a treaty", 2, RefusalsTest::bare, t -> t.bring(0), NONE);
        stays("bring() without people", 2, t -> Trial.treaty(t, LAND), t -> t.bring(0), NONE);
    }

    private static void calm() {
        TRIAL.about("calm: false, refused (2), when it is 0, or there is none such");
        stays("calm(0), where it is 0", 2, RefusalsTest::rich, t -> bit(t.calm(0)), 0);
        for (int village : new int[] {-1, 2, Integer.MIN_VALUE, Integer.MAX_VALUE}) {
            stays("calm(" + village + ")", 2, RefusalsTest::rich, t -> bit(t.calm(village)), 0);
        }
        stays("calm() without a treaty", 2, RefusalsTest::bare, t -> bit(t.calm(0)), 0);
    }

    private static void years() {
        TRIAL.about("years, chance: NONE, refused (3), when it can't be, or without a treaty");
        for (int n : new int[] {0, -1, -100, 101, 102, 997, Integer.MIN_VALUE, Integer.MAX_VALUE}) {
            stays("years(" + n + ")", 3, RefusalsTest::rich, t -> t.years(n), NONE);
            stays("chance(" + n + ")", 3, RefusalsTest::rich, t -> t.chance(n), NONE);
        }
        for (int n : new int[] {1, 2, 100}) {
            stays("years(" + n + ") in YEAR 999", 3, RefusalsTest::lastYear, t -> t.years(n), NONE);
            stays("chance(" + n + ") in YEAR 999", 3, RefusalsTest::lastYear, t -> t.chance(n), NONE);
            stays("years(" + n + ") without a treaty", 3, RefusalsTest::bare, t -> t.years(n), NONE);
            stays("chance(" + n + ") without a treaty", 3, RefusalsTest::bare, t -> t.chance(n), NONE);
        }
    }

    private static void undo() {
        TRIAL.about("undo: false, refused (4), when none can be");
        stays("undo() without a treaty", 4, RefusalsTest::bare, t -> bit(t.undo()), 0);
        stays("undo() behind treaty()", 4, t -> {
            rich(t);
            Trial.treaty(t, TREATY);
        }, t -> bit(t.undo()), 0);
        stays("undo() behind on()", 4, t -> {
            rich(t);
            Trial.on(t, Trial.imageOf(t));
        }, t -> bit(t.undo()), 0);
        stays("undo() behind all", 4, t -> {
            rich(t);
            for (int i = 0; i < 4; i++) {
                t.undo();
            }
        }, t -> bit(t.undo()), 0);
    }

    private static void seed() {
        TRIAL.about("seed: false, refused (5), when it is below 0");
        for (int seed : new int[] {-1, -2, Integer.MIN_VALUE}) {
            stays("seed(" + seed + ")", 5, RefusalsTest::rich, t -> bit(t.seed(seed)), 0);
            stays("seed(" + seed + ") without a treaty", 5, RefusalsTest::bare, t -> bit(t.seed(seed)), 0);
        }
    }

    private static void on() {
        TRIAL.about("on: false, refused (5), when it is none, or without a treaty, all staying");
        FoolTrade like = new FoolTrade();
        rich(like);
        int[] row = Trial.imageOf(like);
        // s, the last one, lives away; p, the first, at home.
        int[][] wrong = {{0, 4}, {1, 232}, {3, 232}, {4, 100}, {6, 232}, {7, 100}, {8, 10}, {11, 10}, {17, 10}, {9, 2}, {18, 2}, {19, 100}, {10, 1}, {9, 255}};
        for (int[] w : wrong) {
            int[] other = row.clone();
            other[w[0]] = w[1];
            if (w[0] == 1) {
                other[0] = 3;
            }
            if (w[0] == 3 || w[0] == 6) {
                other[w[0] - 1] = 3;
            }
            refusedImage("byte " + w[0] + " is " + w[1], Trial.checked(other));
        }
        for (int off = 1; off < 256; off += 50) {
            int[] other = row.clone();
            other[row.length - 1] = row[row.length - 1] + off & 255;
            refusedImage("the last byte is more by " + off, other);
        }
        refusedImage("nothing", new int[0]);
        refusedImage("a byte", new int[] {199});
        refusedImage("a byte less", Trial.checked(Arrays.copyOf(row, row.length - 1)));
        refusedImage("a byte more", Trial.checked(Arrays.copyOf(row, row.length + 1)));
        refusedImage("a person less", Trial.checked(Arrays.copyOf(row, row.length - 3)));
        refusedImage("a person more", Trial.checked(Arrays.copyOf(row, row.length + 3)));
        for (int[] bytes : new int[][] {{0, 0, 34}, row, {}}) {
            tapeGoes("on() without a treaty", 5, RefusalsTest::bare, Trial.octets(bytes), t -> bit(t.on()), 0, null);
        }
    }

    private static void refusedImage(String what, int[] row) {
        tapeGoes("on() of an image, but " + what, 5, RefusalsTest::rich, Trial.octets(row), t -> bit(t.on()), 0, null);
    }

    private static void asked() {
        TRIAL.about("ask: NOTHING with a FAULT (the tape goes), or, doing nothing else, without a treaty");
        String[] faults = {"", "1 at 0", "first", "1 at 5", "total harvest harvest harvest harvest harvest harvest harvest 0", "4 at 54", "total 5 5", "1 at 8"};
        for (int i = 0; i < faults.length; i += 2) {
            tapeGoes("ask() of '" + faults[i] + "'", NOT_COUNTED, RefusalsTest::rich, Trial.bytes(faults[i]), FoolTrade::ask, FoolTrade.NOTHING, faults[i + 1]);
            tapeGoes("ask() without a treaty", NOT_COUNTED, RefusalsTest::bare, Trial.bytes(faults[i]), FoolTrade::ask, FoolTrade.NOTHING, null);
        }
        tapeGoes("ask() of a question without a treaty", NOT_COUNTED, RefusalsTest::bare, Trial.bytes("often all"), FoolTrade::ask, FoolTrade.NOTHING, null);
        tapeGoes("ask() without a treaty behind a fault", NOT_COUNTED, t -> Trial.treaty(t, LAND + "x"), Trial.bytes("often all"), FoolTrade::ask, FoolTrade.NOTHING,
            "1 at " + LAND.length());
    }

    /** What there is not is told by NONE or NOTHING; it is counted nowhere and changes nothing. */
    private static void wrongQueries() {
        TRIAL.about("status: refused are feed(), end(), treaty(), see(), teach(), bring(), calm(), years(), chance(), undo(), seed(), on() alone");
        for (Consumer<FoolTrade> ahead : Arrays.<Consumer<FoolTrade>>asList(RefusalsTest::rich, RefusalsTest::bare, RefusalsTest::lastYear)) {
            for (int n : new int[] {Integer.MIN_VALUE, -2, -1}) {
                stays("queries of what there is not, by " + n, NOT_COUNTED, ahead, t -> queries(t, n), 0);
            }
        }
    }

    /** How many of these answer otherwise than that there is none; n is below 0. */
    private static long queries(FoolTrade t, int n) {
        long[] none = {t.has(n), t.has(8), t.has(8 - n), t.fault(n), t.fault(2), t.letter(0, n, 0), t.letter(0, 2, 0), t.letter(1, n, 0), t.letter(n, 0, 0), t.letter(2, 0, 0),
            t.letter(0, 0, n), t.letter(0, 0, 6), t.village(n, 0), t.village(2, 0), t.village(0, n), t.village(0, 6), t.person(n, 0), t.person(4, 0), t.person(0, n), t.person(0, 7),
            t.kept(n, 0), t.kept(40, 0), t.kept(0, n), t.kept(0, 3), t.later(n, 0, 0), t.later(2, 0, 0), t.later(0, n, 0), t.later(0, 61, 0), t.later(0, 0, n), t.later(0, 0, 2),
            t.lives(n, 0), t.lives(4, 0), t.lives(0, n), t.lives(0, 61), t.shortage(n), t.shortage(2), t.bargain(n), t.bargain(3), t.rest(n), t.rest(2), t.exam(n - 1), t.exam(3),
            t.feign(n), t.feign(4), t.wits(n), t.wits(4), t.tells(n, 0), t.tells(4, 0), t.tells(0, n), t.tells(0, 3), t.octet(n), t.octet(33), t.status(n), t.status(6)};
        long[] nothing = {t.does(n, 0), t.does(4, 0), t.does(0, n), t.does(0, 2), t.gain(n, 2, 0), t.gain(4, 2, 0), t.gain(0, n, 0), t.gain(0, 4, 0), t.gain(0, 2, n),
            t.gain(0, 2, 2), t.gain(2, 0, 0), t.worth(n, 1), t.worth(2, 1), t.worth(0, n), t.worth(0, 0), t.worth(0, 61)};
        long otherwise = 0;
        for (long answer : none) {
            otherwise += bit(answer != NONE);
        }
        for (long answer : nothing) {
            otherwise += bit(answer != FoolTrade.NOTHING);
        }
        return otherwise;
    }

    private static void sixKinds() {
        TRIAL.about("status: how many were refused, 0 to 5; NONE for others");
        FoolTrade t = new FoolTrade();
        int[] due = new int[KINDS];
        for (int round = 1; round <= 3; round++) {
            t.end(-1);
            t.treaty();
            t.see();
            t.teach(0, 0);
            t.bring(0);
            t.calm(0);
            t.years(1);
            t.chance(1);
            t.undo();
            t.seed(-1);
            t.on();
            int[] once = {1, 2, 3, 2, 1, 2};
            for (int what = 0; what < KINDS; what++) {
                due[what] += once[what];
                TRIAL.due("status(" + what + ") behind " + round + " rounds", t.status(what), due[what]);
            }
        }
        for (int what : new int[] {-1, 6, Integer.MIN_VALUE, Integer.MAX_VALUE}) {
            TRIAL.due("status(" + what + ")", t.status(what), NONE);
        }
        Trial.treaty(t, TREATY);
        TRIAL.due("a treaty leaves what is counted", t.status(2), 9);
    }
}
