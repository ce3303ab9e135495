/** The edges of what is ahead, of bargains, exams and harvests seen, sentence by sentence: section III, promises 12 to 23. */
public final class AheadEdgesTest {
    private static final int NONE = FoolTrade.NONE;
    private static final long NOTHING = FoolTrade.NOTHING;
    private static final String LAND = "village a harvest 10 quarrel 2;village b harvest 20 quarrel 3;";
    private static final String P = "person p of a wits 3 oath 1 cheer 5;";
    private static final String Q = "person q of a wits 7 oath 2 cheer 6;";
    private static final String R = "person r of b wits 2 oath 8 cheer 4;";
    private static final String S = "person s of b wits 9 oath 0 cheer 1;";
    private static final String FOUR = LAND + P + Q + R + S;
    /** In a, where the harvest is 10, one does his wits, in b, where it is 20, his cheer. */
    private static final String TRADE = "does (20-harvest)/10*wits+(harvest-10)/10*cheer;";
    /** Each year the harvest of a is more by p's wits. */
    private static final String GROWS = LAND + "person p of a wits 5 oath 0 cheer 0;does wits;";
    private static final Trial TRIAL = new Trial();

    public static void main(String[] args) {
        later();
        shortage();
        gain();
        bargain();
        rest();
        exam();
        examOrder();
        feign();
        worth();
        see();
        wits();
        tells();
        TRIAL.end("AheadEdgesTest");
    }

    private static void due(String call, long got, long want) {
        TRIAL.due(call, got, want);
    }

    private static void due(String call, boolean got, boolean want) {
        TRIAL.due(call, got, want);
    }

    private static String one(String name, String village, int wits, int oath, int cheer) {
        return "person " + name + " of " + village + " wits " + wits + " oath " + oath + " cheer " + cheer + ";";
    }

    private static void later() {
        TRIAL.about("later, lives: behind n YEARS AHEAD (0 .. 60), as YEARS come from now on");
        String text = FOUR + "fights quarrel+guests-harvest/50;stays away<2;";
        for (int block = 0; block < 3; block++) {
            FoolTrade ahead = Trial.by(text);
            FoolTrade there = Trial.by(text);
            if (block > 0) {
                there.years(20 * block);
            }
            for (int n = 20 * block; n <= 20 * block + 20; n++) {
                for (int v = 0; v < 2; v++) {
                    due("later(" + v + ", " + n + ", 0)", ahead.later(v, n, 0), there.village(v, 0));
                    due("later(" + v + ", " + n + ", 1)", ahead.later(v, n, 1), there.village(v, 1));
                }
                for (int p = 0; p < 4; p++) {
                    due("lives(" + p + ", " + n + ")", ahead.lives(p, n), there.person(p, 1));
                }
                there.years(1);
            }
            due("now is as it was", ahead.has(2), 0);
            due("nothing is KEPT", ahead.has(5), 0);
            due("nothing can be undone", ahead.has(7), 0);
        }
        TRIAL.about("later: NONE when there is none such, n can't be, or for others");
        FoolTrade t = Trial.by(FOUR);
        for (int bad : new int[] {-1, 2, Integer.MIN_VALUE, Integer.MAX_VALUE}) {
            due("later(" + bad + ", 1, 0)", t.later(bad, 1, 0), NONE);
            due("later(0, 1, " + bad + ")", t.later(0, 1, bad), NONE);
        }
        for (int bad : new int[] {-1, 61, Integer.MIN_VALUE, Integer.MAX_VALUE}) {
            due("later(0, " + bad + ", 0)", t.later(0, bad, 0), NONE);
            due("lives(0, " + bad + ")", t.lives(0, bad), NONE);
        }
        TRIAL.about("lives: NONE when there is none such, or n can't be");
        for (int bad : new int[] {-1, 4, 8, Integer.MIN_VALUE, Integer.MAX_VALUE}) {
            due("lives(" + bad + ", 0)", t.lives(bad, 0), NONE);
        }
        TRIAL.about("III: AHEAD (60 at most, not beyond YEAR 999)");
        due("60 in 939", Trial.inYear(FOUR, 939).later(0, 60, 0), 70);
        due("60 in 940", Trial.inYear(FOUR, 940).later(0, 60, 0), NONE);
        due("59 in 940", Trial.inYear(FOUR, 940).later(0, 59, 0), 69);
        due("0 in 999", Trial.inYear(FOUR, 999).later(0, 0, 0), 10);
        due("1 in 999", Trial.inYear(FOUR, 999).later(0, 1, 0), NONE);
        due("1 in 998", Trial.inYear(FOUR, 998).later(0, 1, 1), 2);
        due("lives, 60 in 939", Trial.inYear(FOUR, 939).lives(0, 60), 0);
        due("lives, 60 in 940", Trial.inYear(FOUR, 940).lives(0, 60), NONE);
        due("lives, 0 in 999", Trial.inYear(FOUR, 999).lives(2, 0), 1);
        due("lives, 1 in 999", Trial.inYear(FOUR, 999).lives(2, 1), NONE);
        TRIAL.about("III: AHEAD without DRAWS");
        due("snow 100", Trial.by(FOUR + "snow 100;stays all;").lives(0, 1), 1);
    }

    private static void shortage() {
        TRIAL.about("shortage: behind how many YEARS AHEAD (0: now; 60 at most) first");
        String text = LAND + P + R + "goose year=?;stays all;";
        for (int year : new int[] {0, 1, 58, 59}) {
            for (int v = 0; v < 2; v++) {
                due("exchanged in YEAR " + year, Trial.by(text.replace("?", "" + year)).shortage(v), year + 1);
            }
        }
        due("exchanged in YEAR 60", Trial.by(text.replace("?", "60")).shortage(0), NONE);
        FoolTrade t = Trial.by(text.replace("?", "60"));
        t.years(1);
        due("a YEAR later", t.shortage(0), 60);
        t.bring(0);
        due("now", t.shortage(0), 0);
        due("not the other one", t.shortage(1), NONE);
        due("nobody of it", Trial.by(LAND + P).shortage(1), 0);
        due("nobody at all", Trial.by(LAND).shortage(0), 0);
        due("the first time, though they come home", Trial.by(LAND + P + R + "goose year>2;stays away<2;").shortage(0), 4);
        TRIAL.about("III: a SHORTAGE of a VILLAGE is, when none of its own PEOPLE lives in it");
        due("over the summer alone is none", Trial.by(LAND + P + R).shortage(0), NONE);
        due("one is left", Trial.by(FOUR + "stays all;").shortage(0), NONE);
        FoolTrade guests = Trial.by(LAND + P + R + "goose not all;stays all;");
        guests.bring(0);
        guests.bring(1);
        due("guests do not count", guests.shortage(0), 0);
        due("guests do not count", guests.shortage(1), 0);
        TRIAL.about("shortage: not beyond YEAR 999");
        due("in YEAR 998, the last", Trial.inYear(text.replace("?", "998"), 990).shortage(0), 9);
        due("in YEAR 999, none", Trial.inYear(text.replace("?", "999"), 990).shortage(0), NONE);
        due("60 up to YEAR 999", Trial.inYear(text.replace("?", "998"), 939).shortage(0), 60);
        due("in YEAR 999, now", Trial.inYear(LAND + P, 999).shortage(1), 0);
        due("in YEAR 999, none now", Trial.inYear(LAND + P, 999).shortage(0), NONE);
        for (int bad : new int[] {-1, 2, Integer.MIN_VALUE, Integer.MAX_VALUE}) {
            due("shortage(" + bad + ")", Trial.by(LAND).shortage(bad), NONE);
        }
    }

    private static void gain() {
        TRIAL.about("III: a YEAR with a told pair is one in which these are SENT (PASSED or not), or nobody is");
        for (String goose : new String[] {"", "goose all;", "goose not all;"}) {
            FoolTrade t = Trial.by(FOUR + goose);
            due("of 0 by 0, 2", t.gain(0, 2, 0), -1);
            due("of 1 by 0, 2", t.gain(0, 2, 1), 1);
            due("of 0 by 1, 3", t.gain(1, 3, 0), 2);
            due("of 1 by 1, 3", t.gain(1, 3, 1), -2);
        }
        due("alike ones: 0", Trial.by(LAND + one("p", "a", 3, 0, 0) + one("r", "b", 3, 0, 0)).gain(0, 1, 0), 0);
        TRIAL.about("III: GAIN: its harvest behind one YEAR less that behind one with nobody SENT (0 .. 999 both)");
        String full = LAND.replace("harvest 10", "harvest 998").replace("harvest 20", "harvest 1");
        due("998+5 is 999 both ways", Trial.by(full + Q + S).gain(0, 1, 0), 0);
        due("998-4 less 999", Trial.by(full + one("p", "a", 9, 0, 0) + one("r", "b", 0, 0, 0)).gain(0, 1, 0), 994 - 999);
        due("1+5 less 0", Trial.by(full + one("p", "a", 9, 0, 0) + one("r", "b", 0, 0, 0)).gain(0, 1, 1), 6);
        due("most", Trial.by(LAND.replace("10", "0") + one("p", "a", 0, 0, 0) + one("r", "b", 9, 0, 0) + "does wits*999;").gain(0, 1, 0), 999);
        due("least", Trial.by(LAND.replace("10", "0") + one("p", "a", 9, 0, 0) + one("r", "b", 0, 0, 0) + "does wits*999;").gain(0, 1, 0), -999);
        TRIAL.about("gain: NOTHING when there are none such (one of VILLAGE 0, one of VILLAGE 1, living there)");
        FoolTrade t = Trial.by(FOUR);
        int[][] bad = {{2, 0}, {0, 1}, {2, 3}, {0, 0}, {-1, 2}, {4, 2}, {0, -1}, {0, 4}, {Integer.MIN_VALUE, 2}, {0, Integer.MAX_VALUE}};
        for (int[] pair : bad) {
            due("gain(" + pair[0] + ", " + pair[1] + ", 0)", t.gain(pair[0], pair[1], 0), NOTHING);
        }
        for (int village : new int[] {-1, 2, Integer.MIN_VALUE, Integer.MAX_VALUE}) {
            due("gain(0, 2, " + village + ")", t.gain(0, 2, village), NOTHING);
        }
        t.bring(0);
        due("the first lives away", t.gain(0, 2, 0), NOTHING);
        due("another one", t.gain(1, 2, 0), -5);
        t.bring(0);
        t.bring(2);
        due("the second lives away", t.gain(0, 2, 0), NOTHING);
        due("nobody changed by it", t.has(3), 1);
        TRIAL.about("gain: NOTHING beyond YEAR 999");
        due("in 998", Trial.inYear(FOUR, 998).gain(0, 2, 0), -1);
        due("in 999", Trial.inYear(FOUR, 999).gain(0, 2, 0), NOTHING);
    }

    private static void dueBargain(String what, FoolTrade t, int one, int other, int less) {
        due(what + ", bargain(0)", t.bargain(0), one);
        due(what + ", bargain(1)", t.bargain(1), other);
        due(what + ", bargain(2)", t.bargain(2), less);
    }

    private static void bargain() {
        TRIAL.about("III: a BARGAIN, if it (the less of both GAINS) is above 0");
        // Gains of a: the wits that come less those that go; of b: the cheer that comes less the one that goes.
        dueBargain("0 and 1", Trial.by(LAND + one("p", "a", 1, 0, 1) + one("r", "b", 1, 0, 0) + TRADE), NONE, NONE, NONE);
        dueBargain("1 and 0", Trial.by(LAND + one("p", "a", 0, 0, 1) + one("r", "b", 1, 0, 1) + TRADE), NONE, NONE, NONE);
        dueBargain("1 and 1", Trial.by(LAND + one("p", "a", 0, 0, 1) + one("r", "b", 1, 0, 0) + TRADE), 0, 1, 1);
        dueBargain("9 and 9", Trial.by(LAND + one("p", "a", 0, 0, 9) + one("r", "b", 9, 0, 0) + TRADE), 0, 1, 9);
        dueBargain("-9 and 9", Trial.by(LAND + one("p", "a", 9, 0, 9) + one("r", "b", 0, 0, 0) + TRADE), NONE, NONE, NONE);
        dueBargain("9 and 1", Trial.by(LAND + one("p", "a", 0, 0, 1) + one("r", "b", 9, 0, 0) + TRADE), 0, 1, 1);
        dueBargain("1 and 9", Trial.by(LAND + one("p", "a", 0, 0, 9) + one("r", "b", 1, 0, 0) + TRADE), 0, 1, 1);
        TRIAL.about("III: a BARGAIN: the less is greatest; of like ones the first pair");
        String like = LAND + one("p", "a", 0, 0, 5) + one("q", "a", 0, 0, 5) + one("r", "b", 4, 0, 0) + one("s", "b", 4, 0, 0) + TRADE;
        dueBargain("four like pairs", Trial.by(like), 0, 2, 4);
        String cross = LAND + one("p", "a", 0, 0, 5) + one("q", "a", 3, 0, 9) + one("r", "b", 5, 0, 4) + one("s", "b", 2, 0, 3) + TRADE;
        dueBargain("0, 3 and 1, 2 are like, 0, 2 is less", Trial.by(cross), 0, 3, 2);
        dueBargain("the last pair", Trial.by(LAND + one("p", "a", 5, 0, 2) + one("q", "a", 0, 0, 8) + one("r", "b", 2, 0, 5) + one("s", "b", 8, 0, 0) + TRADE), 1, 3, 8);
        TRIAL.about("III: a BARGAIN: one of each VILLAGE's own PEOPLE that live in it (PASSED or not)");
        FoolTrade t = Trial.by(like);
        t.bring(0);
        dueBargain("p lives away", t, 1, 2, 4);
        t.bring(2);
        dueBargain("r lives away, too", t, 1, 3, 4);
        t.bring(1);
        dueBargain("nobody of a", t, NONE, NONE, NONE);
        dueBargain("nobody passes", Trial.by(like + "goose not all;"), 0, 2, 4);
        dueBargain("nobody of b", Trial.by(LAND + P + Q + TRADE), NONE, NONE, NONE);
        dueBargain("nobody", Trial.by(LAND), NONE, NONE, NONE);
        TRIAL.about("III: a BARGAIN of eight, whoever is told first");
        String eight = LAND;
        for (int i = 0; i < 8; i++) {
            eight += one("p" + (char) ('a' + i), i % 2 == 0 ? "b" : "a", i % 2 == 0 ? i : 0, 0, i % 2 == 0 ? 0 : i);
        }
        dueBargain("the last of both", Trial.by(eight + TRADE), 7, 6, 6);
        dueBargain("the first of b", Trial.by(LAND + one("r", "b", 9, 0, 0) + one("s", "b", 8, 0, 0) + one("p", "a", 0, 0, 9) + TRADE), 2, 0, 9);
        dueRest("of eight the last of both", Trial.by(eight.replace("harvest 10", "harvest 100") + "does 0-wits-cheer;"), 7, 6);
        dueRest("of eight the first of both", Trial.by(eight + "does wits+cheer;"), 1, 0);
        dueRest("of eight, all alike, the first of both", Trial.by(eight + "does 3;"), 1, 0);
        FoolTrade some = Trial.by(eight + "does wits+cheer;");
        some.bring(0);
        some.bring(1);
        dueRest("of those who are left", some, 3, 2);
        TRIAL.about("bargain: NONE without one, beyond YEAR 999, or for others");
        for (int what : new int[] {-1, 3, Integer.MIN_VALUE, Integer.MAX_VALUE}) {
            due("bargain(" + what + ")", Trial.by(like).bargain(what), NONE);
        }
        dueBargain("in 998", Trial.inYear(like, 998), 0, 2, 4);
        dueBargain("in 999", Trial.inYear(like, 999), NONE, NONE, NONE);
        dueBargain("without a treaty", new FoolTrade(), NONE, NONE, NONE);
    }

    private static void dueRest(String what, FoolTrade t, int one, int other) {
        due(what + ", rest(0)", t.rest(0), one);
        due(what + ", rest(1)", t.rest(1), other);
    }

    private static void rest() {
        TRIAL.about("III: at REST is a pair by which neither has more harvest, if it alone had SENT another one; of like ones the first");
        dueRest("the least witty go", Trial.by(FOUR), 0, 2);
        dueRest("the other way round", Trial.by(LAND + Q + P + S + R), 1, 3);
        dueRest("all alike: the first", Trial.by(FOUR + "does 1;"), 0, 2);
        dueRest("by one more", Trial.by(LAND + one("p", "a", 4, 0, 0) + one("q", "a", 3, 0, 0) + one("r", "b", 4, 0, 0) + one("s", "b", 4, 0, 0)), 1, 2);
        dueRest("by one more", Trial.by(LAND + one("p", "a", 4, 0, 0) + one("q", "a", 4, 0, 0) + one("r", "b", 4, 0, 0) + one("s", "b", 3, 0, 0)), 0, 3);
        dueRest("999 whomever they send: the first", Trial.by(LAND.replace("10", "999").replace("20", "999") + Q + P + S + R + "does wits;"), 0, 2);
        dueRest("0 whomever they send: the first", Trial.by(LAND.replace("10", "0").replace("20", "0") + Q + P + S + R + "does 0-wits;"), 0, 2);
        dueRest("one of each", Trial.by(LAND + Q + S), 0, 1);
        TRIAL.about("III: at REST: another one of these (own PEOPLE that live in it, PASSED or not)");
        FoolTrade t = Trial.by(FOUR);
        t.bring(0);
        dueRest("p lives away", t, 1, 2);
        t.bring(2);
        dueRest("r lives away, too", t, 1, 3);
        dueRest("nobody passes", Trial.by(FOUR + "goose not all;"), 0, 2);
        TRIAL.about("rest: NONE without one, beyond YEAR 999, or for others");
        t.bring(1);
        dueRest("nobody of a", t, NONE, NONE);
        dueRest("nobody of b", Trial.by(LAND + P), NONE, NONE);
        dueRest("nobody", Trial.by(LAND), NONE, NONE);
        dueRest("in 998", Trial.inYear(FOUR, 998), 0, 2);
        dueRest("in 999", Trial.inYear(FOUR, 999), NONE, NONE);
        dueRest("without a treaty", new FoolTrade(), NONE, NONE);
        for (int what : new int[] {-1, 2, Integer.MIN_VALUE, Integer.MAX_VALUE}) {
            due("rest(" + what + ")", Trial.by(FOUR).rest(what), NONE);
        }
    }

    private static void dueExam(String what, String text, int... questions) {
        FoolTrade t = Trial.by(text);
        due(what + ", exam(NONE)", t.exam(NONE), questions.length);
        for (int k = 0; k < 4; k++) {
            due(what + ", exam(" + k + ")", t.exam(k), k < questions.length ? questions[k] : NONE);
        }
        due(what + ", exam(-2)", t.exam(-2), NONE);
        due(what + ", exam(max)", t.exam(Integer.MAX_VALUE), NONE);
        due(what + ", exam(min)", t.exam(Integer.MIN_VALUE), NONE);
    }

    private static void noExam(String what, FoolTrade t) {
        for (int k = -2; k < 4; k++) {
            due(what + ", exam(" + k + ")", t.exam(k), NONE);
        }
    }

    private static String row(int... wits) {
        StringBuilder b = new StringBuilder(LAND);
        for (int i = 0; i < wits.length; i++) {
            b.append(one("p" + (char) ('a' + i), "a", wits[i], 0, 0));
        }
        return b.toString();
    }

    private static void exam() {
        TRIAL.about("III: an EXAM: less than a number (1 .. 9), of each kind");
        for (int n = 1; n <= 9; n++) {
            dueExam("wits", LAND + one("p", "a", n - 1, 0, 0) + one("q", "b", n, 0, 0) + "goose wits<" + n + ";", n);
            dueExam("oath", LAND + one("p", "a", 0, n, 0) + one("q", "b", 0, n - 1, 0) + "goose oath<" + n + ";", 10 + n);
            dueExam("cheer", LAND + one("p", "a", 0, 0, n - 1) + one("q", "b", 0, 0, n) + "goose cheer=" + n + ";", 20 + n);
        }
        TRIAL.about("III: an EXAM: the fewest (3 at most)");
        dueExam("all pass: none is needed", FOUR + "goose all;");
        dueExam("none passes: none is needed", FOUR + "goose not all;");
        dueExam("nobody: none is needed", LAND);
        dueExam("one person: none is needed", LAND + P);
        dueExam("one", row(0, 2) + "goose wits=2;", 1);
        dueExam("two", row(0, 2, 4) + "goose wits=2;", 1, 3);
        dueExam("three", row(0, 2, 4, 6) + "goose wits=0 or wits=4;", 1, 3, 5);
        noExam("four would be", Trial.by(row(0, 2, 4, 6, 8) + "goose wits=0 or wits=4 or wits=8;"));
        dueExam("three of kinds", LAND + one("p", "a", 5, 5, 5) + one("q", "a", 4, 5, 5) + one("r", "a", 5, 4, 5) + one("s", "a", 5, 5, 4) + "goose wits+oath+cheer=15;", 5, 15, 25);
        TRIAL.about("III: an EXAM: no two PEOPLE answer all of them alike, of whom the goose PASSES one now, and the other one not");
        noExam("alike ones in both villages", Trial.by(LAND + one("p", "a", 5, 5, 5) + one("q", "b", 5, 5, 5) + "goose harvest<15;"));
        dueExam("alike ones who pass both", LAND + one("p", "a", 5, 5, 5) + one("q", "b", 5, 5, 5) + one("r", "b", 6, 5, 5) + "goose wits<6;", 6);
        FoolTrade t = Trial.by(LAND + one("p", "a", 5, 5, 5) + one("q", "b", 5, 5, 5) + "goose harvest<15;");
        t.bring(1);
        due("both in a now", t.exam(NONE), 0);
        t.teach(0, 1);
        due("both pass yet", t.exam(NONE), 0);
        t.bring(1);
        due("one in a, one in b, of other wits", t.exam(NONE), 1);
        due("wits less than 2", t.exam(0), 2);
        t.bring(1);
        due("both in a again", t.exam(NONE), 0);
        TRIAL.about("exam: NONE without a treaty; in the last YEAR it is as ever");
        noExam("without a treaty", new FoolTrade());
        due("in YEAR 999", Trial.inYear(FOUR, 999).exam(0), 4);
    }

    private static void examOrder() {
        TRIAL.about("III: an EXAM: of like ones the first row (kind by kind, number by number; each behind the one ahead)");
        dueExam("wits ahead of oath ahead of cheer", LAND + one("p", "a", 3, 3, 3) + one("q", "a", 7, 7, 7) + "goose wits=3;", 4);
        dueExam("oath ahead of cheer", LAND + one("p", "a", 3, 3, 3) + one("q", "a", 3, 7, 7) + "goose oath=3;", 14);
        dueExam("the least number", row(2, 9) + "goose wits=2;", 3);
        // p and q part by wits 1 to 4, p and r by oath or by cheer: the first row is 1, 11.
        dueExam("two of two kinds", LAND + one("p", "a", 4, 4, 4) + one("q", "a", 0, 4, 4) + one("r", "a", 4, 0, 0) + "goose wits=4 and oath=4;", 1, 11);
        dueExam("the second by its own order", row(1, 4, 9) + "goose wits=4;", 2, 5);
        dueExam("one that does all ahead of two", LAND + one("p", "a", 0, 0, 9) + one("q", "a", 2, 0, 0) + one("r", "a", 4, 0, 9) + "goose cheer=0;", 21);
    }

    private static void feign() {
        TRIAL.about("III: one FEIGNS wits that are nearest to his, of like ones the less");
        String alone = LAND + one("p", "a", 5, 0, 0) + R + "goose ?;";
        String[] tests = {"all", "not wits=5", "wits=2 or wits=8", "wits=1 or wits=8", "wits=2 or wits=9", "wits=0", "wits=9", "wits=0 or wits=9", "wits<5", "wits>5", "not all", "wits>9"};
        int[] want = {5, 4, 2, 8, 2, 0, 9, 9, 4, 6, NONE, NONE};
        for (int i = 0; i < tests.length; i++) {
            due("goose " + tests[i], Trial.by(alone.replace("?", tests[i])).feign(0), want[i]);
        }
        for (int wits : new int[] {0, 9}) {
            String text = LAND + one("p", "a", wits, 0, 0) + "goose wits=?;";
            for (int goal : new int[] {0, 1, 8, 9}) {
                due("from " + wits + " to " + goal, Trial.by(text.replace("?", "" + goal)).feign(0), goal);
            }
        }
        due("not below 0", Trial.by(LAND + one("p", "a", 0, 0, 0) + "goose wits<0 or wits=3;").feign(0), 3);
        due("not above 9", Trial.by(LAND + one("p", "a", 9, 0, 0) + "goose wits>9 or wits=6;").feign(0), 6);
        TRIAL.about("III: FEIGN: he would be SENT, and PASSED, in the next YEAR");
        due("p, the first, needs q's 4", Trial.by(LAND + one("p", "a", 9, 0, 0) + one("q", "a", 4, 0, 0)).feign(0), 4);
        due("q, the second, needs less than p's 4", Trial.by(LAND + one("p", "a", 4, 0, 0) + one("q", "a", 9, 0, 0)).feign(1), 3);
        due("sent, but not passed", Trial.by(LAND + one("p", "a", 9, 0, 0) + one("q", "a", 4, 0, 0) + "goose wits=9;").feign(0), NONE);
        due("none is less than 0", Trial.by(LAND + one("p", "a", 0, 0, 0) + one("q", "a", 9, 0, 0)).feign(1), NONE);
        due("as he is", Trial.by(FOUR).feign(0), 3);
        FoolTrade t = Trial.by(LAND + one("p", "a", 0, 0, 0) + one("q", "a", 9, 0, 0));
        t.bring(0);
        due("p lives away: q needs to pass alone", t.feign(1), 4);
        due("all stays", t.person(1, 2), 9);
        TRIAL.about("feign: NONE by none, when he does not live at home, beyond YEAR 999, or when there is none such");
        due("p lives away", t.feign(0), NONE);
        due("in 998", Trial.inYear(FOUR, 998).feign(0), 3);
        due("in 999", Trial.inYear(FOUR, 999).feign(0), NONE);
        for (int bad : new int[] {-1, 4, 8, Integer.MIN_VALUE, Integer.MAX_VALUE}) {
            due("feign(" + bad + ")", Trial.by(FOUR).feign(bad), NONE);
        }
    }

    private static void worth() {
        TRIAL.about("worth: n YEARS AHEAD (1 .. 60)");
        FoolTrade t = Trial.by(FOUR);
        due("worth(0, 1)", t.worth(0, 1), -1);
        due("worth(1, 1)", t.worth(1, 1), 1);
        due("worth(0, 60)", t.worth(0, 60), 70 - 130);
        due("worth(1, 60)", t.worth(1, 60), 260 - 200);
        TRIAL.about("III: worth: its harvest behind n YEARS AHEAD less what it would be with nobody SENT in these");
        due("nobody goes: 0", Trial.by(FOUR + "goose not all;").worth(0, 60), 0);
        due("most", Trial.by(LAND.replace("10", "0") + one("p", "a", 0, 0, 0) + one("r", "b", 9, 0, 0) + "goose all;does wits*999;").worth(0, 1), 999);
        due("least", Trial.by(LAND.replace("10", "0") + one("p", "a", 9, 0, 0) + one("r", "b", 0, 0, 0) + "goose all;does wits*999;").worth(0, 1), -999);
        FoolTrade away = Trial.by(FOUR + "goose not all;");
        away.bring(3);
        due("those away come home both ways", away.worth(0, 9), 0);
        due("without DRAWS", Trial.by(FOUR + "snow 100;").worth(0, 7), -7);
        due("with nobody SENT the YEARS go on", Trial.by(FOUR + "goose not all;does year;").worth(0, 9), 0);
        due("with nobody SENT quarrels go on", Trial.by(FOUR + "goose not all;fights quarrel+1;does quarrel;").worth(0, 9), 0);
        TRIAL.about("worth: NOTHING when there is none such, or n can't be");
        for (int n : new int[] {0, -1, 61, Integer.MIN_VALUE, Integer.MAX_VALUE}) {
            due("worth(0, " + n + ")", t.worth(0, n), NOTHING);
        }
        for (int village : new int[] {-1, 2, Integer.MIN_VALUE, Integer.MAX_VALUE}) {
            due("worth(" + village + ", 1)", t.worth(village, 1), NOTHING);
        }
        due("60 in 939", Trial.inYear(FOUR, 939).worth(0, 60), -60);
        due("60 in 940", Trial.inYear(FOUR, 940).worth(0, 60), NOTHING);
        due("1 in 998", Trial.inYear(FOUR, 998).worth(0, 1), -1);
        due("1 in 999", Trial.inYear(FOUR, 999).worth(0, 1), NOTHING);
    }

    private static void see() {
        TRIAL.about("see: 1 to 16 rows of four bytes: how many rows");
        for (int rows : new int[] {1, 2, 15, 16}) {
            FoolTrade t = Trial.by(GROWS.replace("harvest 10", "harvest 0"));
            due(rows + " rows", Trial.see(t, new int[4 * rows]), rows);
            due("has(6)", t.has(6), rows);
            due("all rows are so", t.wits(0), 1023);
            due("the tape went", t.feed(0, 0, 0, 0, 0), 20);
        }
        FoolTrade t = Trial.by(GROWS.replace("harvest 10", "harvest 0"));
        int[] last = new int[64];
        last[63] = 1;
        due("16 rows, the last not so", Trial.see(t, last), 16);
        due("by none", t.wits(0), 0);
        due("fewer rows then", Trial.see(t, 0, 0, 0, 0), 1);
        due("the rows ahead are gone", t.wits(0), 1023);
        TRIAL.about("III: SEEN: YEARS AHEAD (0 .. 30), a VILLAGE, its harvest (0 .. 999)");
        due("30, village 1, 999", Trial.see(t, 30, 1, 3, 231), 1);
        due("0, village 0, 0", Trial.see(t, 0, 0, 0, 0), 1);
        due("31", Trial.see(t, 31, 1, 3, 231), NONE);
        due("village 2", Trial.see(t, 30, 2, 3, 231), NONE);
        due("1000", Trial.see(t, 30, 1, 3, 232), NONE);
        due("refused", t.status(1), 3);
        due("what was SEEN stays", t.has(6), 1);
    }

    private static int growsTo(int ahead, int wits) {
        return 10 + ahead * wits;
    }

    private static FoolTrade seenGrowing(int year, int ahead, int harvest) {
        FoolTrade t = Trial.inYear(GROWS, year);
        due("see()", Trial.see(t, ahead, 0, harvest >> 8, harvest & 255), 1);
        return t;
    }

    private static void wits() {
        TRIAL.about("wits: WITS of a PERSON by what is SEEN, as bits (0 .. 9)");
        for (int w = 0; w < 10; w++) {
            due("behind 1 YEAR", seenGrowing(0, 1, growsTo(1, w)).wits(0), 1 << w);
            due("behind 30 YEARS", seenGrowing(0, 30, growsTo(30, w)).wits(0), 1 << w);
        }
        due("now", seenGrowing(0, 0, 10).wits(0), 1023);
        due("not so now", seenGrowing(0, 0, 11).wits(0), 0);
        due("by -1", seenGrowing(0, 1, 9).wits(0), 0);
        due("by 10", seenGrowing(0, 1, 20).wits(0), 0);
        TRIAL.about("III: so that all is so");
        FoolTrade t = Trial.by(GROWS);
        Trial.see(t, 1, 0, 0, 13, 2, 0, 0, 16);
        due("both by 3", t.wits(0), 8);
        Trial.see(t, 1, 0, 0, 13, 2, 0, 0, 17);
        due("no two at once", t.wits(0), 0);
        due("wits now are as they were", t.person(0, 2), 5);
        TRIAL.about("wits: all, if nothing is (SEEN)");
        due("1023", Trial.by(GROWS).wits(0), 1023);
        due("1023 in YEAR 999", Trial.inYear(GROWS, 999).wits(0), 1023);
        TRIAL.about("wits: YEARS beyond 999 are by none");
        due("30 in 969", seenGrowing(969, 30, growsTo(30, 4)).wits(0), 16);
        due("30 in 970", seenGrowing(970, 30, growsTo(30, 4)).wits(0), 0);
        due("29 in 970", seenGrowing(970, 29, growsTo(29, 4)).wits(0), 16);
        due("1 in 998", seenGrowing(998, 1, 14).wits(0), 16);
        due("1 in 999", seenGrowing(999, 1, 14).wits(0), 0);
        due("0 in 999", seenGrowing(999, 0, 10).wits(0), 1023);
        FoolTrade beyond = Trial.inYear(GROWS, 998);
        Trial.see(beyond, 1, 0, 0, 14, 2, 0, 0, 18);
        due("one of two rows beyond", beyond.wits(0), 0);
        TRIAL.about("wits: NONE when there is none such");
        for (int bad : new int[] {-1, 1, 8, Integer.MIN_VALUE, Integer.MAX_VALUE}) {
            due("wits(" + bad + ")", t.wits(bad), NONE);
        }
        due("without a treaty", new FoolTrade().wits(0), NONE);
    }

    private static void dueTells(String what, FoolTrade t, int year, int village, int left) {
        due(what + ", the YEAR AHEAD", t.tells(0, 0), year);
        due(what + ", the VILLAGE", t.tells(0, 1), village);
        due(what + ", left at the most", t.tells(0, 2), left);
    }

    private static void tells() {
        String p = LAND + "person p of a wits 5 oath 0 cheer 0;goose not all;";
        TRIAL.about("III: TELLING is the YEAR AHEAD (1 .. 30), by whose harvest the most of these left are fewest");
        dueTells("in the first YEAR", Trial.by(GROWS), 1, 0, 1);
        dueTells("in YEAR 1 first", Trial.by(p + "does min(1,year)*wits;"), 2, 0, 1);
        dueTells("in YEAR 29 first", Trial.by(p + "does year/29*wits;"), 30, 0, 1);
        dueTells("in YEAR 30 first: too late", Trial.by(p + "does year/30*wits;"), 1, 0, 10);
        dueTells("two each", Trial.by(p + "does wits/2;"), 1, 0, 2);
        dueTells("five at 0, one each above", Trial.by(p.replace("harvest 10", "harvest 0") + "does wits-4;"), 1, 0, 5);
        dueTells("nothing tells: the first of all", Trial.by(p + "does 0;"), 1, 0, 10);
        TRIAL.about("III: TELLING: of like ones the first, YEAR by YEAR");
        dueTells("VILLAGE 1 by one who lives there", bringFirst(Trial.by(p + "does wits;stays all;")), 1, 1, 1);
        dueTells("a later YEAR tells more", Trial.by(p + "does wits/2*(1-min(1,year))+min(1,year)*wits;"), 2, 0, 1);
        // By one YEAR wits below 5 are told from others, as p goes or not, in both villages alike.
        dueTells("of both VILLAGES the first", Trial.by(LAND + one("p", "a", 0, 1, 0) + one("r", "b", 0, 2, 0) + "does oath;"), 1, 0, 5);
        TRIAL.about("III: TELLING: of these left (by what is SEEN)");
        FoolTrade t = Trial.by(p + "does wits/2;");
        Trial.see(t, 1, 0, 0, 12);
        due("wits 4, 5", t.wits(0), 48);
        dueTells("both are left whatever it is", t, 1, 0, 2);
        dueTells("one is left, 9", seenGrowing(0, 1, 19), 1, 0, 1);
        dueTells("one is left, 0", seenGrowing(0, 1, 10), 1, 0, 1);
        TRIAL.about("tells: NONE without any, when no YEAR comes, there is none such, or for others");
        dueTells("without any", seenGrowing(0, 1, 9), NONE, NONE, NONE);
        dueTells("by rows beyond YEAR 999", seenGrowing(998, 2, 14), NONE, NONE, NONE);
        dueTells("in 999", Trial.inYear(GROWS, 999), NONE, NONE, NONE);
        dueTells("in 998", Trial.inYear(GROWS, 998), 1, 0, 1);
        dueTells("30 ahead of 999", Trial.inYear(p + "does year/998*wits;", 969), 30, 0, 1);
        dueTells("29 ahead of 999", Trial.inYear(p + "does year/998*wits;", 970), 29, 0, 1);
        dueTells("31 ahead of 999", Trial.inYear(p + "does year/998*wits;", 968), 1, 0, 10);
        dueTells("not beyond 999", Trial.inYear(p + "does year/999*wits;", 990), 1, 0, 10);
        dueTells("without a treaty", new FoolTrade(), NONE, NONE, NONE);
        for (int bad : new int[] {-1, 3, Integer.MIN_VALUE, Integer.MAX_VALUE}) {
            due("tells(0, " + bad + ")", Trial.by(GROWS).tells(0, bad), NONE);
        }
        for (int bad : new int[] {-1, 1, 8, Integer.MIN_VALUE, Integer.MAX_VALUE}) {
            due("tells(" + bad + ", 0)", Trial.by(GROWS).tells(bad, 0), NONE);
        }
    }

    private static FoolTrade bringFirst(FoolTrade t) {
        t.bring(0);
        return t;
    }
}
