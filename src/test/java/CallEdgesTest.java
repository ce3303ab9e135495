import java.util.Arrays;

/** The edges of the other calls, sentence by sentence: promises 1 to 3, 6 to 10 and 31 to 35. */
public final class CallEdgesTest {
    private static final int NONE = FoolTrade.NONE;
    private static final long NOTHING = FoolTrade.NOTHING;
    private static final int[] FAR = {Integer.MIN_VALUE, Integer.MAX_VALUE};
    private static final String LAND = "village a harvest 10 quarrel 2;village b harvest 20 quarrel 3;";
    private static final String FOUR = LAND + "person p of a wits 3 oath 1 cheer 5;person q of a wits 7 oath 2 cheer 6;"
        + "person r of b wits 2 oath 8 cheer 4;person s of b wits 9 oath 0 cheer 1;";
    private static final Trial TRIAL = new Trial();

    public static void main(String[] args) {
        newObject();
        withoutTreaty();
        feed();
        end();
        has();
        letter();
        village();
        person();
        does();
        answers();
        parts();
        image();
        octet();
        on();
        onEdges();
        TRIAL.end("CallEdgesTest");
    }

    private static void due(String call, long got, long want) {
        TRIAL.due(call, got, want);
    }

    private static void due(String call, boolean got, boolean want) {
        TRIAL.due(call, got, want);
    }

    private static String eight(String village) {
        StringBuilder b = new StringBuilder(LAND);
        for (int i = 0; i < 8; i++) {
            b.append("person p").append((char) ('a' + i)).append(" of ").append(village).append(" wits ").append(i).append(" oath 1 cheer 1;");
        }
        return b.toString();
    }

    private static void newObject() {
        TRIAL.about("FoolTrade(): no treaty, nobody");
        FoolTrade t = new FoolTrade();
        for (int what = 0; what < 8; what++) {
            due("has(" + what + ")", t.has(what), 0);
        }
        for (int what = 0; what < 6; what++) {
            due("status(" + what + ")", t.status(what), 0);
        }
        due("fault(0)", t.fault(0), 0);
        due("fault(1)", t.fault(1), NONE);
        due("end(0): an empty tape", t.end(0), true);
        due("end(1): an empty tape", t.end(1), false);
        due("octet(0): no image", t.octet(0), NONE);
        due("image()", t.image(), 3);
        due("octet(0)", t.octet(0), 0);
        due("octet(1)", t.octet(1), 0);
        due("octet(2)", t.octet(2), 199 * 9 % 251);
        due("octet(3)", t.octet(3), NONE);
        due("two objects are two", new FoolTrade().status(0), 0);
    }

    private static void withoutTreaty() {
        TRIAL.about("FoolTrade(): there is none such of anything");
        FoolTrade t = new FoolTrade();
        for (int k = -1; k < 3; k++) {
            due("letter", t.letter(0, k, 0), NONE);
            due("letter", t.letter(1, k, 0), NONE);
            due("village", t.village(k, 0), NONE);
            due("person", t.person(k, 0), NONE);
            due("does", t.does(k, 0), NOTHING);
            due("kept", t.kept(k, 0), NONE);
            due("later", t.later(k, 0, 0), NONE);
            due("lives", t.lives(k, 0), NONE);
            due("shortage", t.shortage(k), NONE);
            due("gain", t.gain(k, 1, 0), NOTHING);
            due("bargain", t.bargain(k), NONE);
            due("rest", t.rest(k), NONE);
            due("exam", t.exam(k), NONE);
            due("feign", t.feign(k), NONE);
            due("worth", t.worth(k, 1), NOTHING);
            due("wits", t.wits(k), NONE);
            due("tells", t.tells(k, 0), NONE);
        }
        due("seed() needs none", t.seed(7), true);
        due("a seed told ahead of the treaty stays", bySeedAhead(0), 0);
        due("a seed told ahead of the treaty stays", bySeedAhead(1), 1);
    }

    /** By the seed 0 the first draw is 92. */
    private static int bySeedAhead(int more) {
        FoolTrade t = new FoolTrade();
        t.seed(0);
        Trial.treaty(t, LAND + "snow " + (92 + more) + ";");
        return t.chance(1);
    }

    private static void feed() {
        TRIAL.about("feed: twenty bytes come behind those on the tape: how many there are; more than 1600 are refused");
        FoolTrade t = new FoolTrade();
        for (int i = 1; i <= 80; i++) {
            due("feed() " + i, t.feed(i, i, i, i, i), 20 * i);
        }
        due("feed() 81", t.feed(0, 0, 0, 0, 0), NONE);
        due("end(1580)", t.end(1580), true);
        due("feed() up to 1600", t.feed(0, 0, 0, 0, 0), 1600);
        due("end(1581)", t.end(1581), true);
        due("feed() up to 1601", t.feed(0, 0, 0, 0, 0), NONE);
        due("status(0)", t.status(0), 2);
        due("end(3)", t.end(3), true);
        due("feed() behind 3", t.feed(0, 0, 0, 0, 0), 23);
        TRIAL.about("feed: of each number the highest first");
        // Behind n years the harvest is 10 more n times 3: five rows, one in each number.
        String grows = LAND + "person p of a wits 5 oath 0 cheer 0;does wits;";
        for (int spoilt = -1; spoilt < 20; spoilt++) {
            FoolTrade u = Trial.by(grows);
            int[] rows = new int[5];
            for (int i = 0; i < 5; i++) {
                int row = (i + 1) << 24 | 10 + 3 * (i + 1);
                rows[i] = spoilt >= 0 && spoilt / 4 == i ? row ^ 1 << 8 * (spoilt % 4) : row;
            }
            due("feed()", u.feed(rows[0], rows[1], rows[2], rows[3], rows[4]), 20);
            due("see()", u.see(), 5);
            due("by rows of which byte " + spoilt + " is spoilt", u.wits(0) == 8, spoilt == -1);
        }
        FoolTrade v = Trial.by(LAND);
        due("bytes above 127", v.feed(0xffffffff, -2, 0x80808080, 0x7fffffff, 0x80000000), 20);
        due("treaty()", v.treaty(), NONE);
        due("at the first of them", v.fault(1), 0);
        FoolTrade w = new FoolTrade();
        due("blanks, then a byte above 127", w.feed(0x20202020, 0x2020200a, 0x0a2020e9, 0, 0), 20);
        due("treaty()", w.treaty(), NONE);
        due("fault(1)", w.fault(1), 11);
    }

    private static void end() {
        TRIAL.about("end: the tape has its first n bytes alone");
        FoolTrade t = new FoolTrade();
        Trial.feed(t, Trial.bytes(LAND + "snow 5;"));
        due("end() of all of it", t.end(LAND.length() + 7), true);
        due("end() of its first", t.end(LAND.length()), true);
        due("what was behind is gone", t.end(LAND.length() + 1), false);
        due("treaty()", t.treaty(), 2);
        due("end(0) of none", t.end(0), true);
        Trial.feed(t, Trial.bytes("total wits"));
        due("end(0)", t.end(0), true);
        due("ask() of none", t.ask(), NOTHING);
        due("its fault", t.fault(1), 0);
        t.feed(0x20202020, 0x20202020, 0, 0, 0);
        t.end(0);
        due("treaty() of none, behind blanks", t.treaty(), NONE);
        due("its fault", t.fault(1), 0);
        t.feed(0x20202020, 0x20202020, 0, 0, 0);
        t.end(1);
        due("treaty() of one blank", t.treaty(), NONE);
        due("its fault", t.fault(1), 1);
        t.feed(1, 2, 3, 4, 5);
        due("end(20)", t.end(20), true);
        due("end(19)", t.end(19), true);
        due("end(20)", t.end(20), false);
        due("end(-1)", t.end(-1), false);
        due("status(0)", t.status(0), 3);
    }

    private static void has() {
        TRIAL.about("has: NONE for others");
        FoolTrade t = Trial.by(FOUR);
        for (int what : new int[] {-1, 8, FAR[0], FAR[1]}) {
            due("has(" + what + ")", t.has(what), NONE);
        }
        TRIAL.about("has: 0 VILLAGES, 1 PEOPLE (0 .. 8)");
        due("has(0)", t.has(0), 2);
        due("has(1)", t.has(1), 4);
        due("has(1) of eight", Trial.by(eight("a")).has(1), 8);
        due("has(1) of none", Trial.by(LAND).has(1), 0);
        TRIAL.about("has: 2 YEAR (0 .. 999)");
        due("has(2)", t.has(2), 0);
        due("has(2)", Trial.inYear(FOUR, 999).has(2), 999);
        TRIAL.about("has: 3 who live away, 4 whom the goose PASSES now (none .. all)");
        FoolTrade all = Trial.by(eight("b") + "goose all;");
        due("has(3)", all.has(3), 0);
        due("has(4)", all.has(4), 8);
        for (int i = 0; i < 8; i++) {
            all.bring(i);
            due("has(3)", all.has(3), i + 1);
        }
        due("has(4) of those abroad", all.has(4), 8);
        due("has(4): none", Trial.by(eight("b") + "goose not all;").has(4), 0);
        due("has(4): wits 0 .. 4", Trial.by(eight("b")).has(4), 5);
        FoolTrade where = Trial.by(eight("b") + "goose harvest=10;");
        where.bring(3);
        due("has(4): by the village where one lives", where.has(4), 1);
        TRIAL.about("has: 6 rows SEEN, 7 ACTS that can be undone");
        Trial.see(t, new int[64]);
        due("has(6)", t.has(6), 16);
        due("has(7)", t.has(7), 0);
        t.calm(0);
        due("has(7)", t.has(7), 1);
        t.undo();
        due("has(7)", t.has(7), 0);
    }

    private static void letter() {
        TRIAL.about("letter: letter k (0 .. 5): 1 .. 26; 0 behind it; NONE when there is none such");
        FoolTrade t = Trial.by("village a harvest 1 quarrel 1;village abcxyz harvest 1 quarrel 1;person z of a wits 1 oath 1 cheer 1;person zzzzzz of a wits 1 oath 1 cheer 1;");
        int[] second = {1, 2, 3, 24, 25, 26};
        for (int k = 0; k < 6; k++) {
            due("letter(0, 0, " + k + ")", t.letter(0, 0, k), k == 0 ? 1 : 0);
            due("letter(0, 1, " + k + ")", t.letter(0, 1, k), second[k]);
            due("letter(1, 0, " + k + ")", t.letter(1, 0, k), k == 0 ? 26 : 0);
            due("letter(1, 1, " + k + ")", t.letter(1, 1, k), 26);
            due("letter(-1, 0, " + k + ")", t.letter(-1, 0, k), NONE);
            due("letter(2, 0, " + k + ")", t.letter(2, 0, k), NONE);
            due("letter(0, 2, " + k + ")", t.letter(0, 2, k), NONE);
            due("letter(0, -1, " + k + ")", t.letter(0, -1, k), NONE);
            due("letter(1, 2, " + k + ")", t.letter(1, 2, k), NONE);
            due("letter(1, -1, " + k + ")", t.letter(1, -1, k), NONE);
        }
        for (int far : new int[] {-1, 6, FAR[0], FAR[1]}) {
            due("letter(0, 1, " + far + ")", t.letter(0, 1, far), NONE);
            due("letter(1, 1, " + far + ")", t.letter(1, 1, far), NONE);
        }
        for (int far : FAR) {
            due("letter(" + far + ", 0, 0)", t.letter(far, 0, 0), NONE);
            due("letter(0, " + far + ", 0)", t.letter(0, far, 0), NONE);
            due("letter(1, " + far + ", 0)", t.letter(1, far, 0), NONE);
        }
        FoolTrade all = Trial.by(eight("a"));
        due("the eighth person", all.letter(1, 7, 1), 8);
        due("a ninth", all.letter(1, 8, 0), NONE);
    }

    private static void village() {
        TRIAL.about("village: 2 how many live in it, 3 of these its own (none .. all)");
        FoolTrade t = Trial.by(eight("a"));
        for (int i = 0; i <= 8; i++) {
            due("village(0, 2)", t.village(0, 2), 8 - i);
            due("village(0, 3)", t.village(0, 3), 8 - i);
            due("village(1, 2)", t.village(1, 2), i);
            due("village(1, 3)", t.village(1, 3), 0);
            t.bring(i);
        }
        TRIAL.about("village: 4 who would be SENT now (NONE), 5 whether that one PASSES (0 without)");
        due("nobody is left in a", t.village(0, 4), NONE);
        due("without", t.village(0, 5), 0);
        due("guests are not sent", t.village(1, 4), NONE);
        due("without", t.village(1, 5), 0);
        due("one who passes", Trial.by(FOUR).village(0, 5), 1);
        due("one who does not", Trial.by(FOUR + "sends wits;").village(0, 5), 0);
        due("the last of them", Trial.by(FOUR + "sends wits;").village(1, 4), 3);
        due("in YEAR 999, too", Trial.inYear(FOUR, 999).village(1, 4), 2);
        TRIAL.about("village: NONE when there is none such, or for others");
        FoolTrade u = Trial.by(FOUR);
        for (int bad : new int[] {-1, 2, FAR[0], FAR[1]}) {
            due("village(" + bad + ", 0)", u.village(bad, 0), NONE);
        }
        for (int bad : new int[] {-1, 6, FAR[0], FAR[1]}) {
            due("village(0, " + bad + ")", u.village(0, bad), NONE);
            due("village(1, " + bad + ")", u.village(1, bad), NONE);
        }
    }

    private static void person() {
        TRIAL.about("person: NONE when there is none such, or for others");
        FoolTrade t = Trial.by(FOUR);
        for (int bad : new int[] {-1, 4, 7, 8, FAR[0], FAR[1]}) {
            due("person(" + bad + ", 0)", t.person(bad, 0), NONE);
        }
        for (int bad : new int[] {-1, 7, FAR[0], FAR[1]}) {
            due("person(0, " + bad + ")", t.person(0, bad), NONE);
            due("person(3, " + bad + ")", t.person(3, bad), NONE);
        }
        TRIAL.about("person: the first and the last of eight");
        FoolTrade all = Trial.by(eight("b"));
        due("person(0, 2)", all.person(0, 2), 0);
        due("person(7, 0)", all.person(7, 0), 1);
        due("person(7, 2)", all.person(7, 2), 7);
        due("person(4, 6)", all.person(4, 6), 1);
        due("person(5, 6)", all.person(5, 6), 0);
        due("person(8, 2)", all.person(8, 2), NONE);
        Trial.treaty(all, FOUR);
        due("not those of a treaty ahead", all.person(4, 2), NONE);
    }

    private static void does() {
        TRIAL.about("does: the SUM of does of a PERSON now, if he lived in a VILLAGE");
        FoolTrade t = Trial.by(FOUR + "does wits*1000+harvest*10+quarrel+year;");
        for (int person = 0; person < 4; person++) {
            int wits = new int[] {3, 7, 2, 9}[person];
            due("does(" + person + ", 0)", t.does(person, 0), wits * 1000 + 102);
            due("does(" + person + ", 1)", t.does(person, 1), wits * 1000 + 203);
        }
        due("the most", Trial.by(FOUR + "does 9999*9999;").does(0, 0), 1000000);
        due("the least", Trial.by(FOUR + "does 0-9999*9999;").does(0, 0), -1000000);
        due("NONE is a sum, too", Trial.by(FOUR).does(0, 0), -1);
        due("in YEAR 999", Trial.inYear(FOUR + "does year;", 999).does(0, 0), 999);
        TRIAL.about("does: NOTHING when there are none such");
        for (int bad : new int[] {-1, 4, 8, FAR[0], FAR[1]}) {
            due("does(" + bad + ", 0)", t.does(bad, 0), NOTHING);
        }
        for (int bad : new int[] {-1, 2, FAR[0], FAR[1]}) {
            due("does(0, " + bad + ")", t.does(0, bad), NOTHING);
        }
    }

    private static void answers() {
        TRIAL.about("ask: NONE of first, last, when its TEST holds for none");
        FoolTrade t = Trial.by(FOUR);
        TRIAL.wholeQuestion(t, "first not all", NONE);
        TRIAL.wholeQuestion(t, "last wits>9", NONE);
        TRIAL.wholeQuestion(t, "first all", 0);
        TRIAL.wholeQuestion(t, "last all", 3);
        TRIAL.wholeQuestion(t, "first number=3", 3);
        TRIAL.wholeQuestion(t, "last number=0", 0);
        TRIAL.wholeQuestion(t, "first number>0", 1);
        TRIAL.wholeQuestion(t, "last number<3", 2);
        TRIAL.about("IV: often TEST (for how many): none .. all");
        TRIAL.wholeQuestion(t, "often not all", 0);
        TRIAL.wholeQuestion(t, "often wits=9", 1);
        TRIAL.wholeQuestion(t, "often all", 4);
        TRIAL.wholeQuestion(Trial.by(eight("a")), "often all", 8);
        TRIAL.about("IV: total SUM (of all together), most SUM, least SUM");
        TRIAL.wholeQuestion(Trial.by(eight("a")), "total 9999*9999", 8000000);
        TRIAL.wholeQuestion(Trial.by(eight("a")), "total 0-9999*9999", -8000000);
        TRIAL.wholeQuestion(t, "most 0-9999*9999", -1000000);
        TRIAL.wholeQuestion(t, "least 9999*9999", 1000000);
        TRIAL.wholeQuestion(t, "most 0-wits", -2);
        TRIAL.wholeQuestion(t, "least 0-wits", -9);
        TRIAL.wholeQuestion(t, "least wits", 2);
        TRIAL.wholeQuestion(t, "most wits", 9);
        TRIAL.wholeQuestion(t, "total 0-number/3", -1);
        TRIAL.about("IV: 0 without PEOPLE");
        FoolTrade nobody = Trial.by(LAND);
        TRIAL.wholeQuestion(nobody, "most 5", 0);
        TRIAL.wholeQuestion(nobody, "least 0-5", 0);
        TRIAL.wholeQuestion(nobody, "total 5", 0);
        TRIAL.wholeQuestion(nobody, "often all", 0);
        TRIAL.wholeQuestion(nobody, "first all", NONE);
        TRIAL.wholeQuestion(nobody, "last all", NONE);
        TRIAL.questionFault(1, nobody, "least^");
        TRIAL.about("ask: the tape goes; a question of 1600 bytes");
        TRIAL.wholeQuestion(t, " ".repeat(1591) + "often all", 4);
        due("end(1) of the tape that went", t.end(1), false);
        for (String cut : new String[] {"o", "wit", "harves", "1234"}) {
            TRIAL.questionFault(1, t, " ".repeat(1600 - 6 - cut.length()) + "most (" + (cut.equals("1234") ? "1234^" : "^" + cut));
        }
        String ones = "total 1" + "+1".repeat(796);
        TRIAL.wholeQuestion(t, ones, 4 * 797);
        TRIAL.questionFault(1, t, "total 1" + "+1".repeat(796) + "+^");
    }

    private static void parts() {
        TRIAL.about("IV: the harvest of the VILLAGE of that number, what he would do to it: 0 of those that there are not");
        FoolTrade t = Trial.by(FOUR + "does harvest+wits;");
        int[] harvests = {0, 0, 10, 20, 0, 0};
        int[] deeds = {0, 0, 19, 29, 0, 0};
        for (int v = -2; v <= 3; v++) {
            TRIAL.wholeQuestion(t, "most harvest (" + (v < 0 ? "0-" + -v : "" + v) + ")", harvests[v + 2]);
            TRIAL.wholeQuestion(t, "most does (" + (v < 0 ? "0-" + -v : "" + v) + ")", deeds[v + 2]);
        }
        TRIAL.wholeQuestion(t, "total harvest 9999", 0);
        TRIAL.wholeQuestion(t, "total does (9999*9999)", 0);
        TRIAL.wholeQuestion(t, "total harvest (0-9999*9999)", 0);
        TRIAL.about("IV: the PERSON's number; in which VILLAGE he lives, whose he is");
        TRIAL.wholeQuestion(t, "most number", 3);
        TRIAL.wholeQuestion(t, "least number", 0);
        t.bring(0);
        TRIAL.wholeQuestion(t, "total lives", 3);
        TRIAL.wholeQuestion(t, "total home", 2);
        TRIAL.wholeQuestion(t, "first lives=1", 0);
        TRIAL.wholeQuestion(t, "first not lives=home", 0);
        TRIAL.wholeQuestion(t, "last not lives=home", 0);
        TRIAL.wholeQuestion(t, "most harvest lives*10+lives", 201);
        TRIAL.wholeQuestion(Trial.inYear(FOUR, 999), "least year", 999);
        FoolTrade away = Trial.by(FOUR + "stays all;");
        away.years(100);
        TRIAL.wholeQuestion(away, "most away", 99);
        TRIAL.wholeQuestion(away, "least away", 0);
    }

    private static void image() {
        TRIAL.about("IV: AN IMAGE: YEAR (two bytes, the higher first); for each VILLAGE harvest (two bytes), quarrel");
        int[] years = {0, 255, 256, 999};
        for (int year : years) {
            FoolTrade t = Trial.inYear("village a harvest 999 quarrel 99;village b harvest 256 quarrel 0;", year);
            due("image()", t.image(), 9);
            int[] want = Trial.checked(year >> 8, year & 255, 3, 231, 99, 1, 0, 0, 0);
            for (int k = 0; k < 9; k++) {
                due("octet(" + k + ") in " + year, t.octet(k), want[k]);
            }
        }
        TRIAL.about("IV: AN IMAGE: for each PERSON wits, 1 if he lives away, else 0, YEARS away");
        FoolTrade t = Trial.by(FOUR + "stays all;");
        t.teach(0, 0);
        t.teach(3, 0);
        t.years(100);
        t.bring(1);
        due("image()", t.image(), 21);
        int[] people = {0, 1, 99, 7, 1, 0, 2, 0, 0, 0, 1, 99};
        for (int k = 0; k < 12; k++) {
            due("octet(" + (8 + k) + ")", t.octet(8 + k), people[k]);
        }
        TRIAL.about("image: how many bytes, of 0 .. 8 PEOPLE");
        due("without a treaty", new FoolTrade().image(), 3);
        due("of none", Trial.by(LAND).image(), 9);
        due("of eight", Trial.by(eight("a")).image(), 33);
        TRIAL.about("IV: last a byte: all ahead from 199 on, c = (3 c + it) mod 251");
        FoolTrade u = Trial.by(LAND);
        u.image();
        int c = 199;
        for (int k = 0; k < 8; k++) {
            c = (3 * c + u.octet(k)) % 251;
        }
        due("the last byte", u.octet(8), c);
        // 0, 0, 0, 10, 2, 0, 20, 3 by hand: 95, 34, 102, 65, 197, 89, 36, 111.
        due("the last byte by hand", u.octet(8), 111);
        due("image() is no ACT", u.has(7), 0);
    }

    private static void octet() {
        TRIAL.about("octet: byte k of the latest image(); NONE when there is none such");
        FoolTrade t = Trial.by(eight("a"));
        due("ahead of any", t.octet(0), NONE);
        t.image();
        due("octet(0)", t.octet(0), 0);
        due("octet(32)", t.octet(32) >= 0, true);
        for (int k : new int[] {-1, 33, FAR[0], FAR[1]}) {
            due("octet(" + k + ")", t.octet(k), NONE);
        }
        t.teach(0, 9);
        due("the latest image() yet", t.octet(8), 0);
        t.image();
        due("the latest image()", t.octet(8), 9);
        Trial.treaty(t, LAND);
        due("the latest image() yet", t.octet(8), 9);
        due("a shorter one", t.image(), 9);
        due("octet(8)", t.octet(8), 111);
        due("octet(9)", t.octet(9), NONE);
    }

    private static void on() {
        TRIAL.about("on: true, all is as it tells");
        FoolTrade t = Trial.by(FOUR);
        int[] most = Trial.checked(3, 231, 3, 231, 99, 3, 231, 99, 9, 1, 99, 9, 1, 99, 9, 1, 99, 9, 1, 99, 0);
        due("on() of the most", Trial.on(t, most), true);
        due("image()", Arrays.equals(Trial.imageOf(t), most), true);
        due("YEAR", t.has(2), 999);
        due("who live away", t.has(3), 4);
        due("p lives in", t.person(0, 1), 1);
        due("s lives in", t.person(3, 1), 0);
        int[] least = Trial.checked(new int[21]);
        due("on() of the least", Trial.on(t, least), true);
        due("image()", Arrays.equals(Trial.imageOf(t), least), true);
        due("who live away", t.has(3), 0);
        due("p lives in", t.person(0, 1), 0);
        due("s lives in", t.person(3, 1), 1);
        due("oath is the TREATY's", t.person(2, 3), 8);
        due("nothing refused", t.status(5), 0);
        TRIAL.about("on: nothing is KEPT or can be undone; the seed, what is SEEN stays");
        FoolTrade u = Trial.by(FOUR + "snow 19;");
        u.years(50);
        u.teach(0, 9);
        Trial.see(u, 0, 0, 0, 10);
        due("on()", Trial.on(u, Trial.imageOf(u)), true);
        due("KEPT", u.has(5), 0);
        due("kept(0, 0)", u.kept(0, 0), NONE);
        due("can be undone", u.has(7), 0);
        due("undo()", u.undo(), false);
        due("YEAR", u.has(2), 50);
        due("wits", u.person(0, 2), 9);
        due("SEEN", u.has(6), 1);
        due("the first draw is 18", u.chance(1), 1);
        due("KEPT from there on", u.kept(0, 0), 50);
        TRIAL.about("on: the tape goes");
        due("on()", Trial.on(u, Trial.imageOf(u)), true);
        due("end(1)", u.end(1), false);
        due("an image without PEOPLE", Trial.on(Trial.by(LAND), Trial.imageOf(Trial.by(LAND))), true);
        due("an image of eight", Trial.on(Trial.by(eight("b")), Trial.imageOf(Trial.by(eight("b")))), true);
    }

    /** One byte (or two) of an image at its last good and its first bad value. */
    private static void onEdges() {
        TRIAL.about("on: YEAR, harvests 999, quarrels, YEARS away 99, wits 9 at most; 0 YEARS away of one who lives at home");
        int[] row = {0, 0, 0, 10, 2, 0, 20, 3, 3, 0, 0, 7, 1, 5, 2, 0, 0, 9, 1, 0, 0};
        for (int at : new int[] {0, 2, 5}) {
            two(row, at, 999, true);
            two(row, at, 1000, false);
            two(row, at, 1023, false);
            two(row, at, 1024, false);
            two(row, at, 65535, false);
        }
        for (int at : new int[] {4, 7}) {
            single(row, at, 99, true);
            single(row, at, 100, false);
            single(row, at, 255, false);
        }
        for (int at : new int[] {8, 11, 14, 17}) {
            single(row, at, 0, true);
            single(row, at, 9, true);
            single(row, at, 10, false);
            single(row, at, 255, false);
        }
        for (int at : new int[] {9, 15}) {
            single(row, at, 1, true);
            single(row, at, 2, false);
            single(row, at, 255, false);
            single(row, at + 1, 1, false);
            single(row, at + 1, 99, false);
        }
        for (int at : new int[] {12, 18}) {
            single(row, at, 2, false);
            single(row, at + 1, 99, true);
            single(row, at + 1, 100, false);
            single(row, at + 1, 255, false);
        }
        single(row, 12, 0, false);
        single(row, 18, 0, true);
        TRIAL.about("on: AN IMAGE of this TREATY (its length, its last byte)");
        for (int length = 0; length < 40; length++) {
            int[] other = length == 0 ? new int[0] : Trial.checked(Arrays.copyOf(row, length));
            due("of " + length + " bytes", Trial.on(Trial.by(FOUR), other), length == 21);
        }
        int[] good = Trial.checked(row.clone());
        for (int last = 0; last < 256; last++) {
            int[] other = good.clone();
            other[20] = last;
            due("by the last byte " + last, Trial.on(Trial.by(FOUR), other), last == good[20]);
        }
    }

    private static void two(int[] row, int at, int value, boolean good) {
        int[] other = row.clone();
        other[at] = value >> 8;
        other[at + 1] = value & 255;
        dueOn("bytes " + at + " are " + value, other, good);
    }

    private static void single(int[] row, int at, int value, boolean good) {
        int[] other = row.clone();
        other[at] = value;
        dueOn("byte " + at + " is " + value, other, good);
    }

    private static void dueOn(String what, int[] row, boolean good) {
        FoolTrade t = Trial.by(FOUR);
        int[] ahead = Trial.imageOf(t);
        due(what, Trial.on(t, Trial.checked(row)), good);
        due(what + ", status(5)", t.status(5), good ? 0 : 1);
        due(what + ", image()", Arrays.equals(Trial.imageOf(t), good ? row : ahead), true);
    }
}
