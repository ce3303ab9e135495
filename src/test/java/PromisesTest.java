/** Each promise by hand-worked answers: ordinary ones, the edges that the document names, wrong inputs. */
public final class PromisesTest {
    private static final int NONE = FoolTrade.NONE;
    private static final long NOTHING = FoolTrade.NOTHING;
    private static final String LAND = "village a harvest 10 quarrel 2;village b harvest 20 quarrel 3;";
    /** By the default rules p and r go each year, and come home; a has 1 more each year, b 4. */
    private static final String FOUR = LAND + "person p of a wits 3 oath 1 cheer 5;person q of a wits 7 oath 2 cheer 6;"
        + "person r of b wits 2 oath 8 cheer 4;person s of b wits 9 oath 0 cheer 1;";
    private static final Trial TRIAL = new Trial();

    public static void main(String[] args) {
        newObject();
        tape();
        treatyAndFault();
        has();
        letter();
        village();
        person();
        does();
        kept();
        later();
        shortage();
        gain();
        bargainAndRest();
        exam();
        feign();
        worth();
        seen();
        acts();
        years();
        yearsByRules();
        chance();
        undo();
        ask();
        images();
        on();
        arithmetic();
        TRIAL.end("PromisesTest");
    }

    private static void due(String call, long got, long want) {
        TRIAL.due(call, got, want);
    }

    private static void due(String call, boolean got, boolean want) {
        TRIAL.due(call, got, want);
    }

    // Promise 1
    private static void newObject() {
        FoolTrade t = new FoolTrade();
        for (int what = 0; what < 8; what++) {
            due("new has(" + what + ")", t.has(what), 0);
        }
        for (int what = 0; what < 6; what++) {
            due("new status(" + what + ")", t.status(what), 0);
        }
        due("new fault(0)", t.fault(0), 0);
        due("new fault(1)", t.fault(1), NONE);
        due("new octet(0)", t.octet(0), NONE);
        due("new exam(-1)", t.exam(-1), NONE);
    }

    // Promises 2, 3, 35
    private static void tape() {
        FoolTrade t = new FoolTrade();
        for (int i = 1; i <= 80; i++) {
            due("feed " + i, t.feed(i, -1, 0, 1, 2), 20 * i);
        }
        due("feed 81", t.feed(0, 0, 0, 0, 0), NONE);
        due("status(0)", t.status(0), 1);
        due("end(1601)", t.end(1601), false);
        due("end(-1)", t.end(-1), false);
        due("end(min)", t.end(Integer.MIN_VALUE), false);
        due("status(0)", t.status(0), 4);
        due("end(1600)", t.end(1600), true);
        due("end(1581)", t.end(1581), true);
        due("feed behind 1581", t.feed(0, 0, 0, 0, 0), NONE);
        due("end(1580)", t.end(1580), true);
        due("feed behind 1580", t.feed(0, 0, 0, 0, 0), 1600);
        due("end(0)", t.end(0), true);
        due("end(1)", t.end(1), false);
        due("status(-1)", t.status(-1), NONE);
        due("status(6)", t.status(6), NONE);
        // The highest byte comes first, a number below 0 too: an image of year 0x01ff is none.
        FoolTrade u = Trial.by(LAND);
        u.feed(0x01000001, 0x02000304, 0xff000000, 0, 0);
        due("end(9)", u.end(9), true);
        due("on() by a wrong last byte", u.on(), false);
        u.feed(0x01000001, 0x02000304, checkOf(1, 0, 0, 1, 2, 0, 3, 4) << 24, 0, 0);
        u.end(9);
        due("on()", u.on(), true);
        due("year", u.has(2), 256);
        due("harvest 0", u.village(0, 0), 1);
        due("quarrel 0", u.village(0, 1), 2);
        due("harvest 1", u.village(1, 0), 3);
        due("quarrel 1", u.village(1, 1), 4);
    }

    private static int checkOf(int... row) {
        int[] longer = java.util.Arrays.copyOf(row, row.length + 1);
        return Trial.checked(longer)[row.length];
    }

    // Promises 4, 5; the faults have a test of their own
    private static void treatyAndFault() {
        FoolTrade t = new FoolTrade();
        due("treaty()", Trial.treaty(t, FOUR), 6);
        due("fault(0)", t.fault(0), 0);
        due("fault(1)", t.fault(1), NONE);
        due("the tape went", t.feed(0, 0, 0, 0, 0), 20);
        t.seed(5);
        t.years(3);
        t.teach(0, 9);
        Trial.see(t, 0, 0, 0, 10);
        due("a treaty with a fault", Trial.treaty(t, LAND + "x"), NONE);
        due("status(1)", t.status(1), 1);
        due("fault(0)", t.fault(0), 1);
        due("fault(1)", t.fault(1), LAND.length());
        due("fault(2)", t.fault(2), NONE);
        due("fault(-1)", t.fault(-1), NONE);
        due("that tape went, too", t.feed(0, 0, 0, 0, 0), 20);
        due("all stays: people", t.has(1), 4);
        due("all stays: year", t.has(2), 3);
        due("all stays: kept", t.has(5), 3);
        due("all stays: seen", t.has(6), 1);
        due("all stays: acts", t.has(7), 2);
        due("another treaty", Trial.treaty(t, LAND + "snow 19;"), 3);
        due("people", t.has(1), 0);
        due("year", t.has(2), 0);
        due("kept", t.has(5), 0);
        due("seen", t.has(6), 0);
        due("acts", t.has(7), 0);
        due("fault(0)", t.fault(0), 0);
        due("empty", Trial.treaty(t, ""), NONE);
        due("empty fault(1)", t.fault(1), 0);
        due("blanks", Trial.treaty(t, " \n "), NONE);
        due("blanks fault(0)", t.fault(0), 1);
        due("blanks fault(1)", t.fault(1), 3);
    }

    // Promise 6
    private static void has() {
        FoolTrade t = Trial.by(FOUR);
        due("has(0)", t.has(0), 2);
        due("has(1)", t.has(1), 4);
        due("has(2)", t.has(2), 0);
        due("has(3)", t.has(3), 0);
        due("has(4)", t.has(4), 2);
        t.bring(1);
        t.teach(1, 4);
        t.years(2);
        due("has(2)", t.has(2), 2);
        due("has(3): all came home", t.has(3), 0);
        t.bring(1);
        t.bring(3);
        due("has(3)", t.has(3), 2);
        due("has(4): q passes with 4 wits", t.has(4), 3);
        due("has(5)", t.has(5), 2);
        Trial.see(t, 0, 0, 0, 0, 1, 1, 0, 0);
        due("has(6)", t.has(6), 2);
        due("has(7)", t.has(7), 5);
        due("has(8)", t.has(8), NONE);
        due("has(-1)", t.has(-1), NONE);
    }

    // Promise 7
    private static void letter() {
        FoolTrade t = Trial.by("village azbycx harvest 1 quarrel 1;village first harvest 1 quarrel 1;person z of first wits 1 oath 1 cheer 1;");
        int[] name = {1, 26, 2, 25, 3, 24};
        for (int k = 0; k < 6; k++) {
            due("letter(0, 0, " + k + ")", t.letter(0, 0, k), name[k]);
        }
        due("letter(0, 1, 4)", t.letter(0, 1, 4), 20);
        due("letter(0, 1, 5)", t.letter(0, 1, 5), 0);
        due("letter(1, 0, 0)", t.letter(1, 0, 0), 26);
        due("letter(1, 0, 1)", t.letter(1, 0, 1), 0);
        due("letter(1, 0, 6)", t.letter(1, 0, 6), NONE);
        due("letter(0, 0, 6)", t.letter(0, 0, 6), NONE);
        due("letter(0, 0, -1)", t.letter(0, 0, -1), NONE);
        due("letter(0, 2, 0)", t.letter(0, 2, 0), NONE);
        due("letter(1, 1, 0)", t.letter(1, 1, 0), NONE);
        due("letter(1, -1, 0)", t.letter(1, -1, 0), NONE);
        due("letter(2, 0, 0)", t.letter(2, 0, 0), NONE);
        due("letter(-1, 0, 0)", t.letter(-1, 0, 0), NONE);
        Trial.treaty(t, LAND);
        due("a shorter name behind a longer one", t.letter(0, 0, 1), 0);
    }

    // Promise 8
    private static void village() {
        FoolTrade t = Trial.by(FOUR);
        long[] first = {10, 2, 2, 2, 0, 1, NONE};
        long[] second = {20, 3, 2, 2, 2, 1, NONE};
        for (int what = 0; what < 7; what++) {
            due("village(0, " + what + ")", t.village(0, what), first[what]);
            due("village(1, " + what + ")", t.village(1, what), second[what]);
        }
        t.bring(0);
        due("how many live in 1", t.village(1, 2), 3);
        due("own ones in 1", t.village(1, 3), 2);
        due("sent of 0 without p", t.village(0, 4), 1);
        due("q does not pass", t.village(0, 5), 0);
        t.bring(1);
        due("nobody is left to be sent", t.village(0, 4), NONE);
        due("without one", t.village(0, 5), 0);
        due("village(2, 0)", t.village(2, 0), NONE);
        due("village(-1, 0)", t.village(-1, 0), NONE);
        due("village(0, -1)", t.village(0, -1), NONE);
        FoolTrade like = Trial.by(LAND + "person p of a wits 1 oath 1 cheer 1;person q of a wits 1 oath 9 cheer 1;sends oath;");
        due("the most is sent", like.village(0, 4), 1);
        like = Trial.by(LAND + "person p of a wits 1 oath 9 cheer 1;person q of a wits 1 oath 9 cheer 1;sends oath;");
        due("of like ones the first", like.village(0, 4), 0);
        like = Trial.by(LAND + "person p of a wits 1 oath 0 cheer 1;person q of a wits 1 oath 1 cheer 1;sends 0-9-oath;");
        due("sums below 0", like.village(0, 4), 0);
    }

    // Promise 9
    private static void person() {
        FoolTrade t = Trial.by(FOUR + "stays all;");
        long[] p = {0, 0, 3, 1, 5, 0, 1, NONE};
        long[] s = {1, 1, 9, 0, 1, 0, 0, NONE};
        for (int what = 0; what < 8; what++) {
            due("person(0, " + what + ")", t.person(0, what), p[what]);
            due("person(3, " + what + ")", t.person(3, what), s[what]);
        }
        t.years(3);
        due("p lives in b", t.person(0, 1), 1);
        due("p's years away", t.person(0, 5), 3);
        due("person(4, 0)", t.person(4, 0), NONE);
        due("person(-1, 0)", t.person(-1, 0), NONE);
        due("person(0, -1)", t.person(0, -1), NONE);
        t.years(100);
        due("99 at most", t.person(0, 5), 99);
        t.bring(0);
        due("brought home: not away", t.person(0, 5), 0);
        FoolTrade goose = Trial.by(FOUR + "goose harvest > 15;");
        due("the goose goes by the village where he lives", goose.person(0, 6), 0);
        goose.bring(0);
        due("the goose goes by the village where he lives", goose.person(0, 6), 1);
    }

    // Promise 10
    private static void does() {
        FoolTrade t = Trial.by(FOUR + "does wits*100+harvest*2-quarrel+year;");
        due("does(0, 0)", t.does(0, 0), 300 + 20 - 2);
        due("does(0, 1)", t.does(0, 1), 300 + 40 - 3);
        due("does(3, 0)", t.does(3, 0), 900 + 20 - 2);
        due("does(4, 0)", t.does(4, 0), NOTHING);
        due("does(-1, 0)", t.does(-1, 0), NOTHING);
        due("does(0, 2)", t.does(0, 2), NOTHING);
        due("does(0, -1)", t.does(0, -1), NOTHING);
        due("below 0", Trial.by(FOUR).does(0, 0), -1);
    }

    // Promise 11
    private static void kept() {
        FoolTrade t = Trial.by(FOUR);
        t.years(1);
        t.teach(0, 5);
        t.teach(1, 5);
        t.years(1);
        due("year of the first", t.kept(0, 0), 0);
        due("sent of 0", t.kept(0, 1), 0);
        due("sent of 1", t.kept(0, 2), 2);
        due("year of the second", t.kept(1, 0), 1);
        due("no exchange: NONE of 0", t.kept(1, 1), NONE);
        due("no exchange: NONE of 1", t.kept(1, 2), NONE);
        due("kept(2, 0)", t.kept(2, 0), NONE);
        due("kept(-1, 0)", t.kept(-1, 0), NONE);
        due("kept(0, 3)", t.kept(0, 3), NONE);
        due("kept(0, -1)", t.kept(0, -1), NONE);
        t.years(38);
        due("40 are told", t.has(5), 40);
        due("the oldest", t.kept(0, 0), 0);
        t.years(1);
        due("40 are told still", t.has(5), 40);
        due("the oldest", t.kept(0, 0), 1);
        due("the latest", t.kept(39, 0), 40);
        due("kept(40, 0)", t.kept(40, 0), NONE);
    }

    // Promises 12, 13
    private static void later() {
        FoolTrade t = Trial.by(FOUR + "fights quarrel+guests+harvest/100;stays away<1;");
        due("later(0, 0, 0)", t.later(0, 0, 0), 10);
        due("later(0, 1, 0)", t.later(0, 1, 0), 11);
        due("later(1, 1, 0)", t.later(1, 1, 0), 24);
        due("later(0, 1, 1)", t.later(0, 1, 1), 3);
        due("lives(0, 0)", t.lives(0, 0), 0);
        due("lives(0, 1)", t.lives(0, 1), 1);
        due("lives(2, 1)", t.lives(2, 1), 0);
        due("lives(0, 2): a year later home", t.lives(0, 2), 0);
        due("lives(1, 1)", t.lives(1, 1), 0);
        due("now is as it was", t.has(2), 0);
        due("nothing is kept", t.has(5), 0);
        due("later(0, 60, 0)", Trial.by(FOUR).later(0, 60, 0), 70);
        due("later(0, 61, 0)", t.later(0, 61, 0), NONE);
        due("later(0, -1, 0)", t.later(0, -1, 0), NONE);
        due("later(2, 1, 0)", t.later(2, 1, 0), NONE);
        due("later(0, 1, 2)", t.later(0, 1, 2), NONE);
        due("later(0, max, 0)", t.later(0, Integer.MAX_VALUE, 0), NONE);
        due("lives(0, 61)", t.lives(0, 61), NONE);
        due("lives(0, -1)", t.lives(0, -1), NONE);
        due("lives(4, 1)", t.lives(4, 1), NONE);
        FoolTrade old = Trial.inYear(FOUR, 990);
        due("up to year 999", old.later(0, 9, 0), 19);
        due("beyond year 999", old.later(0, 10, 0), NONE);
        due("lives up to year 999", old.lives(0, 9), 0);
        due("lives beyond year 999", old.lives(0, 10), NONE);
    }

    // Promise 14
    private static void shortage() {
        due("never", Trial.by(FOUR).shortage(0), NONE);
        FoolTrade t = Trial.by(FOUR + "goose all;stays all;");
        due("behind two exchanges", t.shortage(0), 2);
        due("behind two exchanges", t.shortage(1), 2);
        t.years(1);
        due("one less", t.shortage(0), 1);
        t.years(1);
        due("now", t.shortage(0), 0);
        due("without people now", Trial.by(LAND).shortage(1), 0);
        due("shortage(2)", t.shortage(2), NONE);
        due("shortage(-1)", t.shortage(-1), NONE);
        String late = FOUR + "goose year > YEAR and wits < 5 or year > YEAR;stays all;";
        due("60 at most", Trial.by(late.replace("YEAR", "57")).shortage(0), 60);
        due("61 is too late", Trial.by(late.replace("YEAR", "58")).shortage(0), NONE);
        due("up to year 999", Trial.inYear(FOUR + "goose all;stays all;", 997).shortage(0), 2);
        due("not beyond year 999", Trial.inYear(FOUR + "goose all;stays all;", 998).shortage(0), NONE);
    }

    // Promise 15
    private static void gain() {
        FoolTrade t = Trial.by(FOUR);
        long[][] want = {{0, 2, -1, 1}, {0, 3, 6, -6}, {1, 2, -5, 5}, {1, 3, 2, -2}};
        for (long[] w : want) {
            due("gain of 0 by " + w[0] + ", " + w[1], t.gain((int) w[0], (int) w[1], 0), w[2]);
            due("gain of 1 by " + w[0] + ", " + w[1], t.gain((int) w[0], (int) w[1], 1), w[3]);
        }
        due("the wrong way round", t.gain(2, 0, 0), NOTHING);
        due("gain(0, 1, 0)", t.gain(0, 1, 0), NOTHING);
        due("gain(0, 2, 2)", t.gain(0, 2, 2), NOTHING);
        due("gain(-1, 2, 0)", t.gain(-1, 2, 0), NOTHING);
        due("gain(0, 4, 0)", t.gain(0, 4, 0), NOTHING);
        t.bring(0);
        due("p lives away", t.gain(0, 2, 0), NOTHING);
        due("year 998", Trial.inYear(FOUR, 998).gain(0, 2, 0), -1);
        due("beyond year 999", Trial.inYear(FOUR, 999).gain(0, 2, 0), NOTHING);
    }

    // Promises 16, 17
    private static void bargainAndRest() {
        FoolTrade t = Trial.by(FOUR);
        due("no bargain", t.bargain(0), NONE);
        due("at rest", t.rest(0), 0);
        due("at rest", t.rest(1), 2);
        due("rest(2)", t.rest(2), NONE);
        due("rest(-1)", t.rest(-1), NONE);
        // In a, where the harvest is 10, wits count alone, in b cheer: both gain by any pair, most by q and s.
        String both = LAND + "person p of a wits 0 oath 0 cheer 6;person q of a wits 0 oath 0 cheer 9;"
            + "person r of b wits 5 oath 0 cheer 0;person s of b wits 9 oath 0 cheer 0;does (20-harvest)/10*wits+(harvest-10)/10*cheer;";
        t = Trial.by(both);
        due("bargain(0)", t.bargain(0), 1);
        due("bargain(1)", t.bargain(1), 3);
        due("bargain(2)", t.bargain(2), 9);
        due("bargain(3)", t.bargain(3), NONE);
        due("bargain(-1)", t.bargain(-1), NONE);
        due("whom one sends is nothing to it: the first is at rest", t.rest(0), 0);
        due("whom one sends is nothing to it: the first is at rest", t.rest(1), 2);
        t.bring(1);
        due("q is away: p goes", t.bargain(0), 0);
        due("the less of 6 and 9", t.bargain(2), 6);
        due("beyond year 999", Trial.inYear(both, 999).bargain(0), NONE);
        due("beyond year 999", Trial.inYear(both, 999).rest(0), NONE);
        due("year 998", Trial.inYear(both, 998).bargain(0), 1);
        due("of like ones the first pair", Trial.by(both.replace("cheer 6", "cheer 9").replace("wits 5", "wits 9")).bargain(0), 0);
        due("of like ones the first pair", Trial.by(both.replace("cheer 6", "cheer 9").replace("wits 5", "wits 9")).bargain(1), 2);
        due("nobody of b", Trial.by(LAND + "person p of a wits 0 oath 0 cheer 6;").rest(0), NONE);
        due("nobody", Trial.by(LAND).bargain(0), NONE);
        // Wits do harm here: each village sends its wittiest, whomever the other one sends.
        t = Trial.by(FOUR + "does 4-wits;");
        due("rest the other way", t.rest(0), 1);
        due("rest the other way", t.rest(1), 3);
    }

    // Promise 18
    private static void exam() {
        FoolTrade t = Trial.by(FOUR);
        due("exam(-1)", t.exam(-1), 1);
        due("wits less than 4", t.exam(0), 4);
        due("exam(1)", t.exam(1), NONE);
        due("exam(-2)", t.exam(-2), NONE);
        t = Trial.by(FOUR + "goose all;");
        due("none is needed", t.exam(-1), 0);
        due("none is needed", t.exam(0), NONE);
        due("nobody", Trial.by(LAND).exam(-1), 0);
        t = Trial.by(FOUR + "goose oath > 7;");
        due("wits tell, too", t.exam(0), 3);
        // By wits p and s stand on both sides of q, r: two questions.
        t = Trial.by(FOUR + "goose wits = 3;");
        due("two", t.exam(-1), 2);
        due("wits less than 3", t.exam(0), 3);
        due("wits less than 4", t.exam(1), 4);
        t = Trial.by(FOUR.replace("wits 3", "wits 1").replace("wits 7", "wits 1").replace("wits 2", "wits 1").replace("wits 9", "wits 1") + "goose cheer > 4;");
        due("by oath it takes two, by cheer one", t.exam(-1), 1);
        due("cheer less than 5", t.exam(0), 25);
        String alike = LAND;
        for (int i = 0; i < 8; i++) {
            alike += "person p" + (char) ('a' + i) + " of a wits " + i + " oath 0 cheer 0;";
        }
        due("4 are needed", Trial.by(alike + "goose wits=0 or wits=2 or wits>3;").exam(-1), NONE);
        due("4 are needed", Trial.by(alike + "goose wits=0 or wits=2 or wits>3;").exam(0), NONE);
        due("3 are enough", Trial.by(alike + "goose wits=1 or wits>2;").exam(-1), 3);
        due("the third", Trial.by(alike + "goose wits=1 or wits>2;").exam(2), 3);
        t = Trial.by(LAND + "person p of a wits 0 oath 0 cheer 0;person q of a wits 9 oath 0 cheer 0;");
        due("wits less than 1", t.exam(0), 1);
        t.teach(0, 1);
        due("that tells no more", t.exam(0), 2);
        due("exam(3)", Trial.by(alike + "goose wits=1 or wits>2;").exam(3), NONE);
    }

    // Promise 19
    private static void feign() {
        FoolTrade t = Trial.by(FOUR);
        int[] want = {3, 2, 2, 1, NONE};
        for (int p = 0; p < 5; p++) {
            due("feign(" + p + ")", t.feign(p), want[p]);
        }
        due("feign(-1)", t.feign(-1), NONE);
        due("he feigns alone: all stays", t.person(1, 2), 7);
        t.bring(0);
        due("not at home", t.feign(0), NONE);
        due("q is alone then: passed below 5", t.feign(1), 4);
        due("by none", Trial.by(FOUR + "goose not all;").feign(0), NONE);
        due("of like ones the less", Trial.by(LAND + "person p of a wits 5 oath 0 cheer 0;goose not wits=5;").feign(0), 4);
        due("nearest, above", Trial.by(LAND + "person p of a wits 5 oath 0 cheer 0;goose wits<2 or wits>7;").feign(0), 8);
        due("year 998", Trial.inYear(FOUR, 998).feign(0), 3);
        due("beyond year 999", Trial.inYear(FOUR, 999).feign(0), NONE);
    }

    // Promise 20
    private static void worth() {
        FoolTrade t = Trial.by(FOUR);
        due("worth(0, 1)", t.worth(0, 1), -1);
        due("worth(1, 1)", t.worth(1, 1), 1);
        due("worth(0, 7)", t.worth(0, 7), -7);
        due("worth(1, 60)", t.worth(1, 60), 60);
        due("worth(0, 0)", t.worth(0, 0), NOTHING);
        due("worth(0, 61)", t.worth(0, 61), NOTHING);
        due("worth(0, -1)", t.worth(0, -1), NOTHING);
        due("worth(2, 1)", t.worth(2, 1), NOTHING);
        due("worth up to year 999", Trial.inYear(FOUR, 996).worth(0, 3), -3);
        due("worth beyond year 999", Trial.inYear(FOUR, 996).worth(0, 4), NOTHING);
        t.bring(3);
        // s comes home in the autumn, sent or not: 5 more for a in the first year both ways, 2 and 1 less then.
        due("one away comes home when nobody is sent, too", t.worth(0, 2), -2);
    }

    // Promises 21, 22, 23
    private static void seen() {
        FoolTrade t = Trial.by(FOUR);
        due("all, if nothing is seen", t.wits(1), 1023);
        due("tells all: year", t.tells(1, 0), 1);
        due("tells all: village", t.tells(1, 1), 0);
        due("tells all: left", t.tells(1, 2), 4);
        due("see()", Trial.see(t, 1, 0, 0, 11), 1);
        due("wits by 11", t.wits(1), 1 << 7);
        due("one is left", t.tells(1, 2), 1);
        due("the first year is as good as any", t.tells(1, 0), 1);
        due("the first village is as good as any", t.tells(1, 1), 0);
        due("see()", Trial.see(t, 1, 0, 0, 7), 1);
        due("wits by 7", t.wits(1), 15);
        due("tells year", t.tells(1, 0), 1);
        due("tells village", t.tells(1, 1), 1);
        due("tells left", t.tells(1, 2), 1);
        due("see() two rows", Trial.see(t, 1, 0, 0, 7, 1, 1, 0, 22), 2);
        due("has(6)", t.has(6), 2);
        due("wits by both", t.wits(1), 2);
        due("see() now", Trial.see(t, 0, 0, 0, 10), 1);
        due("now is by all", t.wits(1), 1023);
        due("see() now, otherwise", Trial.see(t, 0, 1, 0, 21), 1);
        due("by none", t.wits(1), 0);
        due("tells without any", t.tells(1, 0), NONE);
        due("wits(4)", t.wits(4), NONE);
        due("wits(-1)", t.wits(-1), NONE);
        due("tells(4, 0)", t.tells(4, 0), NONE);
        Trial.see(t, 1, 0, 0, 7);
        due("tells(1, 3)", t.tells(1, 3), NONE);
        due("tells(1, -1)", t.tells(1, -1), NONE);
        refusedSights(t);
        t.years(1);
        due("rows stay, by the year of now", t.has(6), 1);
        due("999 years ahead", Trial.see(t, 30, 0, 3, 231), 1);
        FoolTrade old = Trial.inYear(FOUR, 998);
        Trial.see(old, 1, 0, 0, 11);
        due("up to year 999", old.wits(1), 1 << 7);
        Trial.see(old, 2, 0, 0, 12);
        due("beyond year 999 by none", old.wits(1), 0);
        FoolTrade last = Trial.inYear(FOUR, 999);
        due("no year comes", last.tells(1, 0), NONE);
        due("all in year 999", last.wits(1), 1023);
        // Two years are there, and in the second harvests part: later ones are not looked at.
        FoolTrade two = Trial.inYear(FOUR.replace("wits 7", "wits 9") + "does year/998*wits;sends 9;goose all;", 997);
        due("the second year tells", two.tells(1, 0), 2);
    }

    private static void refusedSights(FoolTrade t) {
        int before = t.status(1);
        due("no row", Trial.see(t), NONE);
        due("three bytes", Trial.see(t, 1, 0, 0), NONE);
        due("five bytes", Trial.see(t, 1, 0, 0, 7, 1), NONE);
        due("31 years ahead", Trial.see(t, 31, 0, 0, 7), NONE);
        due("village 2", Trial.see(t, 1, 2, 0, 7), NONE);
        due("harvest 1000", Trial.see(t, 1, 0, 3, 232), NONE);
        due("17 rows", Trial.see(t, new int[68]), NONE);
        due("a second row that is none", Trial.see(t, 1, 0, 0, 7, 200, 0, 0, 7), NONE);
        due("refused", t.status(1), before + 8);
        due("the tape went", t.feed(0, 0, 0, 0, 0), 20);
        due("all stays", t.wits(1), 15);
        FoolTrade many = Trial.by(FOUR.replace("harvest 10", "harvest 0"));
        due("16 rows", Trial.see(many, new int[64]), 16);
        due("by 16 rows", many.wits(0), 1023);
        due("without a treaty", Trial.see(new FoolTrade(), 1, 0, 0, 7), NONE);
    }

    // Promises 24, 25, 26
    private static void acts() {
        FoolTrade t = Trial.by(FOUR);
        due("teach(0, 3): has these", t.teach(0, 3), false);
        due("teach(0, 10)", t.teach(0, 10), false);
        due("teach(0, -1)", t.teach(0, -1), false);
        due("teach(4, 1)", t.teach(4, 1), false);
        due("teach(-1, 1)", t.teach(-1, 1), false);
        due("refused", t.status(2), 5);
        due("no act", t.has(7), 0);
        due("teach(0, 9)", t.teach(0, 9), true);
        due("taught", t.person(0, 2), 9);
        due("teach(0, 0)", t.teach(0, 0), true);
        due("bring(0)", t.bring(0), 1);
        due("bring(0) back", t.bring(0), 0);
        due("bring(2)", t.bring(2), 0);
        due("bring(4)", t.bring(4), NONE);
        due("bring(-1)", t.bring(-1), NONE);
        due("calm(0)", t.calm(0), true);
        due("calmed", t.village(0, 1), 0);
        due("calm(0) again", t.calm(0), false);
        due("calm(2)", t.calm(2), false);
        due("calm(-1)", t.calm(-1), false);
        due("refused", t.status(2), 10);
        due("acts", t.has(7), 6);
    }

    // Promise 27
    private static void years() {
        FoolTrade t = Trial.by(FOUR);
        due("years(0)", t.years(0), NONE);
        due("years(101)", t.years(101), NONE);
        due("years(-1)", t.years(-1), NONE);
        due("refused", t.status(3), 3);
        due("years(1)", t.years(1), 1);
        due("harvest of a", t.village(0, 0), 11);
        due("harvest of b", t.village(1, 0), 24);
        due("years(100)", t.years(100), 100);
        due("year", t.has(2), 101);
        due("harvest of b", t.village(1, 0), 424);
        due("without a treaty", new FoolTrade().years(1), NONE);
        FoolTrade old = Trial.inYear(FOUR, 990);
        due("beyond year 999", old.years(10), NONE);
        due("nothing is done", old.has(2), 990);
        due("up to year 999", old.years(9), 9);
        due("year 999", old.has(2), 999);
        due("the last year", old.years(1), NONE);
        due("the last year by the seed", old.chance(1), NONE);
        due("refused", old.status(3), 3);
        due("999 is the most", Trial.by(FOUR.replace("harvest 20", "harvest 998")).later(1, 1, 0), 999);
        due("0 is the least", Trial.by(LAND + "person p of a wits 0 oath 0 cheer 0;does 0-100;").later(0, 1, 0), 0);
        due("without one of b there is no exchange", Trial.by(LAND + "person p of a wits 0 oath 0 cheer 0;").years(3), 0);
    }

    /** What a year goes by, stage by stage. */
    private static void yearsByRules() {
        // does by harvests ahead of it, of both villages; fights by the harvest behind it and the quarrel ahead.
        FoolTrade t = Trial.by(FOUR + "does harvest+quarrel;goose not all;fights harvest/10+quarrel+guests*50+year;");
        t.years(1);
        due("harvest of a", t.village(0, 0), 10 + 12 * 2);
        due("harvest of b", t.village(1, 0), 20 + 23 * 2);
        due("quarrel of a", t.village(0, 1), 3 + 2);
        due("quarrel of b", t.village(1, 1), 6 + 3);
        t.bring(0);
        t.years(1);
        due("guests, and the year", t.village(1, 1), 29 + 9 + 50 + 1);
        due("fights below 0 is 0", Trial.by(FOUR + "fights 0-5;").later(0, 1, 1), 0);
        due("fights above 99", Trial.by(FOUR + "fights 100;").later(0, 1, 1), 99);
        // Those who go over the hill do their work there, with no year away yet.
        t = Trial.by(FOUR + "does away*100+wits;stays away<2;");
        due("first year: q and r", t.later(0, 1, 0), 10 + 7 + 2);
        due("second year: r away for a year; q does not pass", t.later(0, 2, 0), 19 + 7 + 102);
        due("two years away at most", t.lives(2, 2), 0);
        due("home again", t.lives(2, 3), 1);
        // stays by harvest and quarrel of the village where one lives, as they are in the autumn.
        t = Trial.by(FOUR + "stays harvest = 24 and year = 0;");
        due("p stays in b, whose harvest is 24", t.lives(0, 1), 1);
        due("r does not stay in a", t.lives(2, 1), 1);
        t = Trial.by(FOUR + "fights guests*7;stays quarrel = 7;");
        due("by the quarrel of the autumn", t.lives(0, 1), 1);
        // sends and goose by all as it is ahead of the year.
        t = Trial.by(FOUR + "goose quarrel+year = 2 or harvest = 20;");
        due("ahead of the year", t.years(1), 1);
        due("ahead of the next one", t.years(1), 0);
    }

    // Promises 28, 30
    private static void chance() {
        // By the seed 1 the draws of 100 are 18, 99, 26, 80: worked by hand from 1103527590, 377401575, 662824084, 1147902781.
        int[] snowBy = {18, 19, 26, 27, 80, 81, 99, 100, 0};
        for (int i = 0; i < snowBy.length; i++) {
            FoolTrade t = Trial.by(FOUR + "snow " + snowBy[i] + ";");
            int want = 0;
            for (int draw : new int[] {18, 99, 26, 80}) {
                want += draw < snowBy[i] ? 1 : 0;
            }
            due("snow " + snowBy[i], t.chance(4), want);
            due("four years", t.has(2), 4);
            due("one act", t.has(7), 1);
            due("kept", t.has(5), 4);
        }
        FoolTrade t = Trial.by(FOUR + "stays all;snow 19;");
        t.bring(1);
        due("snow in the first year, none in the second", t.chance(1), 1);
        due("no spring", t.has(3), 1);
        due("no autumn: years away", t.person(1, 5), 0);
        due("kept without an exchange", t.kept(0, 1), NONE);
        due("summer: harvest of a", t.village(0, 0), 9);
        due("summer: harvest of b", t.village(1, 0), 26);
        due("the second year", t.chance(1), 0);
        due("autumn: years away", t.person(1, 5), 1);
        due("kept with an exchange", t.kept(1, 2), 2);
        t = Trial.by(FOUR + "snow 19;");
        t.bring(1);
        t.chance(1);
        due("no autumn: he does not come home", t.person(1, 1), 1);
        FoolTrade u = Trial.by(FOUR + "snow 19;");
        u.chance(1);
        Trial.treaty(u, FOUR + "snow 100;snow 19;");
        due("the seed stays; the last snow counts", u.chance(1), 0);
        due("seed(1)", u.seed(1), true);
        due("by the seed again", u.chance(1), 1);
        due("seed(0)", u.seed(0), true);
        due("by the seed 0 the draw is floor(12345 / 64) mod 100, 92", u.chance(1), 0);
        due("seed(-1)", u.seed(-1), false);
        due("seed(min)", u.seed(Integer.MIN_VALUE), false);
        due("refused", u.status(5), 2);
        due("seed(max)", u.seed(Integer.MAX_VALUE), true);
        due("chance(0)", u.chance(0), NONE);
        due("chance(101)", u.chance(101), NONE);
        due("without a treaty", new FoolTrade().chance(1), NONE);
        due("refused", u.status(3), 2);
        due("chance(100)", u.chance(100), u.has(5) == 40 ? drawsBelow(19, 2147483647L, 100) : NONE);
        due("never by years()", Trial.by(FOUR + "snow 100;").years(4), 4);
        due("never ahead", Trial.by(FOUR + "snow 100;").later(0, 1, 0), 11);
    }

    private static int drawsBelow(int snow, long seed, int n) {
        long x = seed;
        int count = 0;
        for (int i = 0; i < n; i++) {
            x = (1103515245L * x + 12345L) % 2147483648L;
            count += x / 64 % 100 < snow ? 1 : 0;
        }
        return count;
    }

    // Promise 29
    private static void undo() {
        FoolTrade t = Trial.by(FOUR + "stays all;");
        due("nothing to undo", t.undo(), false);
        due("refused", t.status(4), 1);
        t.teach(0, 8);
        t.bring(1);
        t.calm(1);
        t.years(3);
        t.seed(1);
        t.chance(5);
        due("undo chance", t.undo(), true);
        due("year", t.has(2), 3);
        due("kept", t.has(5), 3);
        due("undo years", t.undo(), true);
        due("year", t.has(2), 0);
        due("kept", t.has(5), 0);
        due("harvest", t.village(0, 0), 10);
        due("years away", t.person(1, 5), 0);
        due("quarrel calmed yet", t.village(1, 1), 0);
        due("undo calm", t.undo(), true);
        due("quarrel", t.village(1, 1), 3);
        due("undo bring", t.undo(), true);
        due("home", t.person(1, 1), 0);
        due("undo teach", t.undo(), true);
        due("wits", t.person(0, 2), 3);
        due("no more", t.undo(), false);
        due("refused", t.status(4), 2);
        FoolTrade u = Trial.by(FOUR + "snow 19;");
        u.chance(1);
        u.undo();
        due("the seed stays: 99 is the second draw", u.chance(1), 0);
        manyUndone();
    }

    private static void manyUndone() {
        FoolTrade t = Trial.by(FOUR);
        t.years(45);
        t.teach(0, 9);
        t.years(100);
        due("the oldest told", t.kept(0, 0), 105);
        t.undo();
        t.undo();
        due("told again", t.has(5), 40);
        due("older ones are told again", t.kept(0, 0), 5);
        due("with whom was sent", t.kept(0, 1), 0);
        for (int i = 0; i < 25; i++) {
            t.bring(0);
        }
        due("the last 20", t.has(7), 20);
        int undone = 0;
        for (int i = 0; i < 25; i++) {
            undone += t.undo() ? 1 : 0;
        }
        due("20 undone", undone, 20);
        due("five times brought", t.person(0, 1), 1);
        Trial.treaty(t, FOUR);
        t.bring(0);
        Trial.treaty(t, FOUR);
        due("not behind a treaty", t.undo(), false);
    }

    // Promise 31
    private static void ask() {
        FoolTrade t = Trial.by(FOUR + "does wits*10+harvest;");
        t.bring(0);
        Object[] asked = {
            "first all", 0L, "last all", 3L, "often all", 4L, "first wits>5", 1L, "last wits<5", 2L, "first wits>9", -1L, "last not all", -1L,
            "often not wits<5 and oath=0", 1L, "often [wits<5 or oath=0] and cheer>1", 2L, "total wits", 21L, "most wits", 9L, "least wits", 2L,
            "total 0-wits", -21L, "most 0-wits", -2L, "least 0-wits", -9L, "total number", 6L, "total oath", 11L, "total cheer", 16L,
            "total lives", 3L, "total home", 2L, "total away", 0L, "total year", 0L, "most harvest lives", 20L, "total harvest 1", 80L,
            "total harvest 2", 0L, "total harvest (0-1)", 0L, "most does 0", 100L, "least does 1", 40L, "most does lives", 110L,
            "total does 2", 0L, "most does harvest 9", 100L, "most harvest does 0", 0L, "most harvest home*2", 40L, "first harvest lives<15", 1L,
            "total max(wits, 5)-min(oath,2)", 21L, " \n most\n9999 ", 9999L, "total 1000*1000+1", 4000000L};
        for (int i = 0; i < asked.length; i += 2) {
            due((String) asked[i], Trial.ask(t, (String) asked[i]), (Long) asked[i + 1]);
            due("fault(0)", t.fault(0), 0);
            due("fault(1)", t.fault(1), NONE);
        }
        due("the tape went", t.feed(0, 0, 0, 0, 0), 20);
        due("a fault", Trial.ask(t, "total wits x"), NOTHING);
        due("its kind", t.fault(0), 1);
        due("its place", t.fault(1), 11);
        due("that tape went, too", t.feed(0, 0, 0, 0, 0), 20);
        FoolTrade nobody = Trial.by(LAND);
        String[] none = {"total 5", "most 5", "least 5", "often all"};
        for (String q : none) {
            due(q + " without people", Trial.ask(nobody, q), 0);
        }
        due("first all without people", Trial.ask(nobody, "first all"), NONE);
        due("a fault without people", Trial.ask(nobody, "first"), NOTHING);
        FoolTrade fresh = new FoolTrade();
        Trial.treaty(fresh, "x");
        due("without a treaty", Trial.ask(fresh, "often all ("), NOTHING);
        due("the treaty's fault is told yet", fresh.fault(1), 0);
        due("the tape went", fresh.feed(0, 0, 0, 0, 0), 20);
    }

    // Promises 32, 33
    private static void images() {
        FoolTrade t = Trial.by("village a harvest 999 quarrel 99;village b harvest 256 quarrel 0;person p of a wits 9 oath 1 cheer 1;person q of b wits 0 oath 1 cheer 1;stays all;does 0;goose not all;");
        t.bring(0);
        t.years(100);
        t.years(100);
        t.years(100);
        due("image()", t.image(), 15);
        int[] want = Trial.checked(1, 44, 3, 231, 99, 1, 0, 0, 9, 1, 99, 0, 0, 0, 0);
        for (int k = 0; k < 15; k++) {
            due("octet(" + k + ")", t.octet(k), want[k]);
        }
        due("octet(15)", t.octet(15), NONE);
        due("octet(-1)", t.octet(-1), NONE);
        t.undo();
        due("the latest image() yet", t.octet(1), 44);
        Trial.treaty(t, LAND);
        due("the latest image() yet", t.octet(1), 44);
        due("a shorter one", t.image(), 9);
        due("none such any more", t.octet(9), NONE);
        due("without a treaty", new FoolTrade().image(), 3);
        String eight = LAND;
        for (int i = 0; i < 8; i++) {
            eight += "person p" + (char) ('a' + i) + " of b wits 1 oath 0 cheer 0;";
        }
        due("of eight people", Trial.by(eight).image(), 33);
    }

    // Promise 34
    private static void on() {
        FoolTrade t = Trial.by(FOUR);
        t.years(2);
        Trial.see(t, 0, 0, 0, 1);
        int[] row = {3, 231, 3, 231, 99, 0, 0, 0, 9, 1, 99, 0, 0, 0, 2, 1, 0, 4, 0, 0, 0};
        due("on()", Trial.on(t, Trial.checked(row)), true);
        due("year", t.has(2), 999);
        due("nothing is kept", t.has(5), 0);
        due("nothing can be undone", t.undo(), false);
        due("what is seen stays", t.has(6), 1);
        due("harvest", t.village(0, 0), 999);
        due("quarrel", t.village(0, 1), 99);
        due("wits", t.person(0, 2), 9);
        due("p lives away", t.person(0, 1), 1);
        due("r lives away", t.person(2, 1), 0);
        due("years away", t.person(0, 5), 99);
        due("years away", t.person(2, 5), 0);
        due("oath as it was", t.person(2, 3), 8);
        due("the tape went", t.feed(0, 0, 0, 0, 0), 20);
        int[][] wrong = {{0, 4}, {1, 232}, {3, 232}, {4, 100}, {5, 4}, {7, 100}, {8, 10}, {9, 2}, {10, 100}, {12, 2}, {13, 1}};
        int refused = t.status(5);
        for (int[] w : wrong) {
            int[] other = row.clone();
            other[w[0]] = w[1];
            due("byte " + w[0] + " is " + w[1], Trial.on(t, Trial.checked(other)), false);
            refused++;
        }
        int[] off = row.clone();
        off[20] ^= 1;
        due("a wrong last byte", Trial.on(t, off), false);
        due("a byte too many", Trial.on(t, java.util.Arrays.copyOf(row, 22)), false);
        due("a byte too few", Trial.on(t, Trial.checked(java.util.Arrays.copyOf(row, 20))), false);
        due("none", Trial.on(t), false);
        due("refused", t.status(5), refused + 4);
        due("the tape went", t.feed(0, 0, 0, 0, 0), 20);
        due("all stays", t.person(0, 5), 99);
        due("an image of no treaty", Trial.on(new FoolTrade(), 0, 0, 34), false);
        backAndForth();
    }

    private static void backAndForth() {
        FoolTrade t = Trial.by(FOUR + "stays all;");
        t.years(3);
        t.teach(1, 2);
        int[] row = Trial.imageOf(t);
        FoolTrade u = Trial.by(FOUR + "stays all;");
        due("on()", Trial.on(u, row), true);
        for (int p = 0; p < 4; p++) {
            for (int what = 0; what < 7; what++) {
                due("person(" + p + ", " + what + ")", u.person(p, what), t.person(p, what));
            }
        }
        due("the next years are the same", u.later(0, 9, 0), t.later(0, 9, 0));
    }

    /** SUMS and TESTS, from section I. */
    private static void arithmetic() {
        FoolTrade t = Trial.by(LAND + "person p of a wits 7 oath 3 cheer 1;");
        Object[] sums = {
            "2+3*4", 14L, "(2+3)*4", 20L, "10-3-2", 5L, "20/3/2", 3L, "7/2*2", 6L, "0-7/2", -3L, "(0-7)/2", -4L, "7/(0-2)", -4L, "(0-7)/(0-2)", 3L,
            "5/0", 0L, "5/(wits-7)", 0L, "0/5", 0L, "9999*9999", 1000000L, "0-9999*9999", -1000000L, "(0-9999)*9999", -1000000L,
            "9999*9999+1-1", 999999L, "1000*1000", 1000000L, "1000*1000+1", 1000000L, "0-1000*1000-1+1", -999999L,
            "min(3,2)", 2L, "max(3,2)", 3L, "min(max(1,wits),oath+1)", 4L, "0007", 7L, "((((((5))))))", 5L, "(1000*1000)*(1000*1000)/9999", 100L};
        for (int i = 0; i < sums.length; i += 2) {
            due((String) sums[i], Trial.ask(t, "total " + sums[i]), (Long) sums[i + 1]);
        }
        String[] hold = {"all", "wits=7", "not wits<7", "not wits>7", "not not all", "not all or all", "all or all and not all", "[all or all] and all",
            "not oath=3 or wits=7", "not [oath=3 and wits=8]", "wits+1>oath*2", "(wits)>(oath)", "[[[[[[all]]]]]]"};
        for (String test : hold) {
            due(test, Trial.ask(t, "often " + test), 1);
            due("not [" + test + "]", Trial.ask(t, "often not " + (test.startsWith("[[") ? "all" : "[" + test + "]")), 0);
        }
    }
}
