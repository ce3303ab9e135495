/** The edges of sums, years and acts, sentence by sentence: section I (arithmetic), II, promises 4, 11 and 24 to 30. */
public final class YearEdgesTest {
    private static final int NONE = FoolTrade.NONE;
    private static final String LAND = "village a harvest 10 quarrel 2;village b harvest 20 quarrel 3;";
    private static final String P = "person p of a wits 3 oath 1 cheer 5;";
    private static final String R = "person r of b wits 2 oath 8 cheer 4;";
    /** One of each village, both sent and passed each year, who come home in the autumn. */
    private static final String TWO = LAND + P + R;
    private static final Trial TRIAL = new Trial();

    public static void main(String[] args) {
        division();
        bounds();
        defaults();
        atFirst();
        spring();
        summer();
        quarrels();
        autumn();
        lastYear();
        howManyYears();
        taughtBroughtCalmed();
        snow();
        draws();
        kept();
        undone();
        keptAndUndone();
        TRIAL.end("YearEdgesTest");
    }

    private static void due(String call, long got, long want) {
        TRIAL.due(call, got, want);
    }

    private static void due(String call, boolean got, boolean want) {
        TRIAL.due(call, got, want);
    }

    private static String sum(int n) {
        return n < 0 ? "(0-" + -n + ")" : "" + n;
    }

    private static long total(String sum) {
        return Trial.ask(Trial.by(LAND + P), "total " + sum);
    }

    private static void division() {
        TRIAL.about("I: / gives the greatest whole number not above, by 0 it gives 0");
        for (int a = -13; a <= 13; a++) {
            for (int b = -5; b <= 5; b++) {
                due(a + "/" + b, total(sum(a) + "/" + sum(b)), b == 0 ? 0 : (long) Math.floor((double) a / b));
            }
        }
        due("a million by -1", total("1000*1000/(0-1)"), -1000000);
        due("less than a million by -1", total("(0-1000*1000)/(0-1)"), 1000000);
        due("by a sum that is 0", total("5/(wits-3)"), 0);
        due("0/0, then on", total("0/0+7"), 7);
        due("does by 0", Trial.by(LAND + P + "does 5/(wits-3);").does(0, 0), 0);
        TRIAL.about("I: all from the left on");
        due("10-3-2", total("10-3-2"), 5);
        due("10-3+2", total("10-3+2"), 9);
        due("100/7*7", total("100/7*7"), 98);
        due("7*100/9", total("7*100/9"), 77);
        due("100/7/2", total("100/7/2"), 7);
        due("2+3*4-10/3", total("2+3*4-10/3"), 11);
    }

    private static void bounds() {
        TRIAL.about("I: each sum, difference, product above 10 to the 6 is that");
        String[] texts = {"9999*100+99", "9999*100+100", "9999*100+101", "9999*100-(0-99)", "9999*100-(0-100)", "9999*100-(0-101)", "999*1001", "1000*1000", "1000*1001",
            "(0-1000)*(0-1001)", "9999*9999", "9999*9999*9999", "1000*1000*2/2", "1000*1000+5-5", "1000*1000*(1000*1000)", "1000*1000+1000*1000"};
        long[] sums = {999999, 1000000, 1000000, 999999, 1000000, 1000000, 999999, 1000000, 1000000, 1000000, 1000000, 1000000, 500000, 999995, 1000000, 1000000};
        for (int i = 0; i < texts.length; i++) {
            due(texts[i], total(texts[i]), sums[i]);
            due("does " + texts[i], Trial.by(LAND + P + "does " + texts[i] + ";").does(0, 0), sums[i]);
        }
        TRIAL.about("I: below -10 to the 6 likewise");
        for (int i = 0; i < 3; i++) {
            String below = new String[] {"0-9999*100-99", "0-9999*100-100", "0-9999*100-101"}[i];
            due(below, total(below), new long[] {-999999, -1000000, -1000000}[i]);
        }
        due("a sum", total("(0-9999)*100+(0-101)"), -1000000);
        due("a product", total("(0-1000)*1001"), -1000000);
        due("a product", total("1001*(0-1000)"), -1000000);
        due("a product", total("(0-999)*1001"), -999999);
        due("each of them", total("0-1000*1000-5+5"), -999995);
        due("of all together there is no such bound", Trial.ask(Trial.by(TWO), "total 1000*1000"), 2000000);
        due("of all together there is no such bound", Trial.ask(Trial.by(TWO), "total 0-1000*1000"), -2000000);
    }

    private static void defaults() {
        TRIAL.about("I: without: sends is 9-wits");
        String q = "person q of a wits ? oath 0 cheer 0;";
        due("wits 2 and 3", Trial.by(LAND + P + q.replace("?", "2")).village(0, 4), 1);
        due("wits 3 and 3", Trial.by(LAND + P + q.replace("?", "3")).village(0, 4), 0);
        due("wits 9 alone", Trial.by(LAND + q.replace("?", "9")).village(0, 4), 0);
        TRIAL.about("I: without: goose is wits < 5");
        for (int wits = 0; wits < 10; wits++) {
            due("wits " + wits, Trial.by(LAND + q.replace("?", "" + wits)).person(0, 6), wits < 5 ? 1 : 0);
        }
        TRIAL.about("I: without: does is wits-4");
        for (int wits = 0; wits < 10; wits++) {
            FoolTrade t = Trial.by(LAND + q.replace("?", "" + wits));
            due("wits " + wits, t.does(0, 0), wits - 4);
            due("harvest by wits " + wits, t.later(0, 1, 0), 10 + wits - 4);
        }
        TRIAL.about("I: without: fights is quarrel");
        for (int quarrel : new int[] {0, 1, 99}) {
            due("quarrel " + quarrel, Trial.by(LAND.replace("quarrel 2", "quarrel " + quarrel)).later(0, 60, 1), quarrel);
        }
        TRIAL.about("I: without: stays never");
        FoolTrade t = Trial.by(TWO);
        t.bring(0);
        due("away", t.person(0, 1), 1);
        due("home in the autumn", t.lives(0, 1), 0);
        due("exchanged, and home", Trial.by(TWO).lives(0, 1), 0);
        TRIAL.about("I: without: not those of a treaty ahead");
        FoolTrade u = Trial.by(TWO + "sends wits;goose not all;does 7;fights 9;stays all;");
        Trial.treaty(u, TWO);
        due("does", u.does(0, 0), -1);
        due("goose", u.person(0, 6), 1);
        due("fights", u.later(0, 1, 1), 2);
        due("stays", u.lives(0, 1), 0);
    }

    private static void atFirst() {
        TRIAL.about("II: at first all live where they are at home, nobody has been away; it is YEAR 0");
        FoolTrade t = Trial.by(TWO + "stays all;");
        t.years(5);
        t.teach(0, 9);
        t.calm(0);
        due("away", t.has(3), 2);
        Trial.treaty(t, TWO);
        due("who live away", t.has(3), 0);
        due("p lives in", t.person(0, 1), 0);
        due("r lives in", t.person(1, 1), 1);
        due("p's YEARS away", t.person(0, 5), 0);
        due("YEAR", t.has(2), 0);
        TRIAL.about("treaty: without one all is as at first, nothing is KEPT, SEEN or can be undone");
        t = Trial.by(TWO);
        t.years(5);
        t.teach(0, 9);
        t.calm(0);
        Trial.see(t, 0, 0, 0, 10);
        Trial.treaty(t, TWO);
        due("KEPT", t.has(5), 0);
        due("kept(0, 0)", t.kept(0, 0), NONE);
        due("SEEN", t.has(6), 0);
        due("wits by nothing", t.wits(0), 1023);
        due("can be undone", t.has(7), 0);
        due("undo()", t.undo(), false);
        due("harvest", t.village(0, 0), 10);
        due("quarrel", t.village(0, 1), 2);
        due("wits", t.person(0, 2), 3);
        TRIAL.about("treaty: the seed stays");
        t = Trial.by(TWO);
        t.seed(0);
        Trial.treaty(t, TWO + "snow 92;");
        due("the draw by 0 is 92", t.chance(1), 0);
        t.seed(0);
        Trial.treaty(t, TWO + "snow 93;");
        due("the draw by 0 is 92", t.chance(1), 1);
    }

    private static void spring() {
        TRIAL.about("II: is SENT the one by whom the SUM of sends is most, of like ones the first");
        String three = LAND + "person p of a wits 1 oath ? cheer 0;person q of a wits 1 oath 5 cheer 0;person s of a wits 1 oath 5 cheer 0;sends oath;";
        due("4, 5, 5", Trial.by(three.replace("?", "4")).village(0, 4), 1);
        due("5, 5, 5", Trial.by(three.replace("?", "5")).village(0, 4), 0);
        due("6, 5, 5", Trial.by(three.replace("?", "6")).village(0, 4), 0);
        due("the least that can be", Trial.by(LAND + P + "sends 0-1000*1000;").village(0, 4), 0);
        due("all above a million are like", Trial.by(three.replace("?", "4").replace("sends oath", "sends 1000*1000+oath")).village(0, 4), 0);
        TRIAL.about("II: of its own PEOPLE that live in it");
        FoolTrade t = Trial.by(TWO + "person q of a wits 9 oath 0 cheer 0;stays all;goose all;");
        t.bring(0);
        due("p lives away: q", t.village(0, 4), 2);
        t.bring(2);
        due("nobody is left", t.village(0, 4), NONE);
        due("r alone in b, of three", t.village(1, 4), 1);
        due("no exchange", t.years(1), 0);
        TRIAL.about("II: if both VILLAGES have one to be SENT, and both PASS, it is an EXCHANGE");
        due("both", Trial.by(TWO).years(1), 1);
        due("none of b", Trial.by(LAND + P).years(1), 0);
        due("none of a", Trial.by(LAND + R).years(1), 0);
        due("none at all", Trial.by(LAND).years(1), 0);
        due("p does not pass", Trial.by(TWO + "goose wits=2;").years(1), 0);
        due("r does not pass", Trial.by(TWO + "goose wits=3;").years(1), 0);
        due("neither passes", Trial.by(TWO + "goose wits=9;").years(1), 0);
        due("q would pass, but p is sent", Trial.by(TWO + "person q of a wits 4 oath 0 cheer 0;goose not wits=3;").years(1), 0);
        TRIAL.about("II: all as it is ahead of the YEAR");
        due("harvests ahead", Trial.by(TWO + "goose harvest=10*(4-wits);").years(5), 1);
        due("in YEAR 0", Trial.by(TWO + "goose year=0;").years(2), 1);
        due("in YEAR 1", Trial.by(TWO + "goose year=1;").years(2), 1);
        due("quarrel ahead", Trial.by(TWO + "fights 9;goose quarrel<4;").years(5), 1);
    }

    /** The harvest behind a YEAR of a village with the harvest told, where one lives who does what is told. */
    private static int harvestBehind(int village, int harvest, String does) {
        String text = LAND.replace(village == 0 ? "harvest 10" : "harvest 20", "harvest " + harvest);
        FoolTrade t = Trial.by(text + (village == 0 ? P : R) + "does " + does + ";");
        t.years(1);
        return t.village(village, 0);
    }

    private static void summer() {
        TRIAL.about("II: the harvest of each VILLAGE is more by the SUMS of does, 0 .. 999 (below is 0, above 999)");
        for (int v = 0; v < 2; v++) {
            due("5-6", harvestBehind(v, 5, "0-6"), 0);
            due("5-5", harvestBehind(v, 5, "0-5"), 0);
            due("5-4", harvestBehind(v, 5, "0-4"), 1);
            due("0-1", harvestBehind(v, 0, "0-1"), 0);
            due("0+0", harvestBehind(v, 0, "0"), 0);
            due("0+1", harvestBehind(v, 0, "1"), 1);
            due("995+3", harvestBehind(v, 995, "3"), 998);
            due("995+4", harvestBehind(v, 995, "4"), 999);
            due("995+5", harvestBehind(v, 995, "5"), 999);
            due("999+1", harvestBehind(v, 999, "1"), 999);
            due("0+999", harvestBehind(v, 0, "999"), 999);
            due("0+1000", harvestBehind(v, 0, "1000"), 999);
            due("999-999", harvestBehind(v, 999, "0-999"), 0);
            due("999-1000", harvestBehind(v, 999, "0-1000"), 0);
            due("a million", harvestBehind(v, 500, "1000*1000"), 999);
            due("less by a million", harvestBehind(v, 500, "0-1000*1000"), 0);
        }
        TRIAL.about("II: of all who live in it together");
        StringBuilder eight = new StringBuilder(LAND);
        for (int i = 0; i < 8; i++) {
            eight.append("person p").append((char) ('a' + i)).append(" of a wits ").append(i < 4 ? 9 : 0).append(" oath 0 cheer 0;");
        }
        due("four do a million, four as much the other way", Trial.by(eight + "does (2*wits-9)*1000*1000;").later(0, 1, 0), 10);
        due("eight do 3", Trial.by(eight + "does 3;").later(0, 1, 0), 34);
        due("nobody lives in b", Trial.by(eight + "does 3;").later(1, 1, 0), 20);
        TRIAL.about("II: by harvests, quarrels as they are ahead of this");
        FoolTrade t = Trial.by(eight + "does harvest+quarrel;fights 50;");
        due("each does 12", t.later(0, 1, 0), 10 + 8 * 12);
        due("each does 156 then", t.later(0, 2, 0), 999);
        FoolTrade both = Trial.by(TWO + "goose not all;does harvest;");
        both.years(1);
        due("a by a's", both.village(0, 0), 20);
        due("b by b's", both.village(1, 0), 40);
        TRIAL.about("II: each lives in the other VILLAGE from now on");
        due("p does in b, by b's harvest", Trial.by(TWO + "does harvest*wits;").later(1, 1, 0), 20 + 60);
        due("r does in a, by a's harvest", Trial.by(TWO + "does harvest*wits;").later(0, 1, 0), 10 + 20);
        due("he has not been away yet", Trial.by(TWO + "does away+1;").later(0, 1, 0), 11);
        due("the YEAR is that of the spring", Trial.by(TWO + "does year;").later(0, 3, 0), 10 + 1 + 2);
    }

    private static int quarrelBehind(int village, String fights) {
        FoolTrade t = Trial.by(TWO + "fights " + fights + ";");
        t.years(1);
        return t.village(village, 1);
    }

    private static void quarrels() {
        TRIAL.about("II: then its quarrel is the SUM of fights, 0 .. 99");
        for (int v = 0; v < 2; v++) {
            due("-1", quarrelBehind(v, "0-1"), 0);
            due("0", quarrelBehind(v, "0"), 0);
            due("1", quarrelBehind(v, "1"), 1);
            due("98", quarrelBehind(v, "98"), 98);
            due("99", quarrelBehind(v, "99"), 99);
            due("100", quarrelBehind(v, "100"), 99);
            due("a million", quarrelBehind(v, "1000*1000"), 99);
            due("less than a million below", quarrelBehind(v, "0-1000*1000"), 0);
        }
        TRIAL.about("II: by the harvest of then");
        due("of a: 10+2-4", quarrelBehind(0, "harvest"), 8);
        due("of b: 20+3-4", quarrelBehind(1, "harvest"), 19);
        due("the quarrel ahead of it", quarrelBehind(1, "quarrel*2"), 6);
        due("the YEAR of then", Trial.by(TWO + "fights year;").later(0, 3, 1), 2);
        due("without people, too", Trial.by(LAND + "fights year;").later(0, 3, 1), 2);
        due("without people, too", Trial.by(LAND + "fights harvest+quarrel+guests;").later(1, 2, 1), 43);
        TRIAL.about("I: guests: how many live in the VILLAGE whose they are not");
        due("r is in a", quarrelBehind(0, "guests"), 1);
        due("p is in b", quarrelBehind(1, "guests*7"), 7);
        due("none without an exchange", Trial.by(TWO + "goose not all;fights guests;").later(0, 1, 1), 0);
        StringBuilder eight = new StringBuilder(LAND);
        for (int i = 0; i < 8; i++) {
            eight.append("person p").append((char) ('a' + i)).append(" of a wits 1 oath 0 cheer 0;");
        }
        FoolTrade t = Trial.by(eight + "fights guests;stays all;");
        for (int i = 0; i < 8; i++) {
            t.bring(i);
            due("guests of b", t.later(1, 1, 1), i + 1);
            due("guests of a", t.later(0, 1, 1), 0);
        }
    }

    private static FoolTrade awayFor(String text, int years) {
        FoolTrade t = Trial.by(text);
        int[] row = Trial.imageOf(t);
        row[9] = 1;
        row[10] = years;
        due("on(), p away for " + years, Trial.on(t, Trial.checked(row)), true);
        return t;
    }

    private static void autumn() {
        TRIAL.about("II: he has been away one YEAR more (99 at most)");
        for (int years : new int[] {0, 1, 97, 98, 99}) {
            FoolTrade t = awayFor(LAND + P + "stays all;", years);
            t.years(1);
            due("behind " + years, t.person(0, 5), Math.min(99, years + 1));
            due("he stays", t.person(0, 1), 1);
        }
        FoolTrade t = Trial.by(TWO + "stays all;");
        t.years(1);
        due("in the first autumn", t.person(0, 5), 1);
        t.years(98);
        due("behind 99 years", t.person(0, 5), 99);
        t.years(1);
        due("behind 100 years", t.person(0, 5), 99);
        due("one at home has not been away", Trial.by(LAND + P + "stays all;").person(0, 5), 0);
        TRIAL.about("II: else he comes home, and has not been away");
        for (int years : new int[] {0, 1, 99}) {
            FoolTrade u = awayFor(LAND + P, years);
            u.years(1);
            due("home", u.person(0, 1), 0);
            due("not away", u.person(0, 5), 0);
        }
        TRIAL.about("II: by all as it is then, his YEARS away ahead of this");
        due("away<1, first autumn", Trial.by(TWO + "stays away<1;").lives(0, 1), 1);
        due("away<1, second autumn", Trial.by(TWO + "stays away<1;").lives(0, 2), 0);
        due("away=1 holds not in the first", Trial.by(TWO + "stays away=1;").lives(0, 1), 0);
        due("away<99", awayFor(LAND + P + "stays away<99;", 98).lives(0, 1), 1);
        due("away<99, at 99", awayFor(LAND + P + "stays away<99;", 99).lives(0, 1), 0);
        due("the harvest of then, where he lives", Trial.by(TWO + "stays harvest=19;").lives(0, 1), 1);
        due("the harvest of then, where he lives", Trial.by(TWO + "stays harvest=8;").lives(1, 1), 0);
        due("not that ahead of it", Trial.by(TWO + "stays harvest=20;").lives(0, 1), 0);
        due("the quarrel of then", Trial.by(TWO + "fights 7*guests+quarrel;stays quarrel=10;").lives(0, 1), 1);
        due("not that ahead of it", Trial.by(TWO + "fights 7*guests+quarrel;stays quarrel=3;").lives(0, 1), 0);
        due("the YEAR of then", Trial.by(TWO + "stays year=0;").lives(0, 1), 1);
        due("not the next", Trial.by(TWO + "stays year=1;").lives(0, 1), 0);
    }

    private static void lastYear() {
        TRIAL.about("II: the YEAR is one more (999 at most)");
        FoolTrade t = Trial.inYear(TWO, 998);
        due("years(2) in 998", t.years(2), NONE);
        due("chance(2) in 998", t.chance(2), NONE);
        due("YEAR", t.has(2), 998);
        due("years(1) in 998", t.years(1), 1);
        due("YEAR", t.has(2), 999);
        due("kept", t.kept(0, 0), 998);
        due("years(1) in 999", t.years(1), NONE);
        due("chance(1) in 999", t.chance(1), NONE);
        due("YEAR", t.has(2), 999);
        due("refused", t.status(3), 4);
        due("undone", t.undo(), true);
        due("YEAR", t.has(2), 998);
        due("chance(1) in 998", t.chance(1), 0);
        due("YEAR", t.has(2), 999);
        due("years(100) in 899", Trial.inYear(TWO, 899).years(100), 100);
        due("years(100) in 900", Trial.inYear(TWO, 900).years(100), NONE);
        due("years(99) in 900", Trial.inYear(TWO, 900).years(99), 99);
        due("chance(100) in 899", Trial.inYear(TWO + "snow 100;", 899).chance(100), 100);
        due("chance(100) in 900", Trial.inYear(TWO + "snow 100;", 900).chance(100), NONE);
        FoolTrade all = Trial.by(TWO);
        for (int i = 0; i < 9; i++) {
            due("hundred years", all.years(100), 100);
        }
        due("the last hundred are 99", all.years(100), NONE);
        due("the last 99", all.years(99), 99);
        due("acts go on in YEAR 999", all.teach(0, 9), true);
        due("acts go on in YEAR 999", all.bring(0), 1);
        due("acts go on in YEAR 999", all.calm(0), true);
    }

    private static void howManyYears() {
        TRIAL.about("years: n YEARS (1 .. 100): how many EXCHANGES");
        due("years(1)", Trial.by(TWO).years(1), 1);
        due("years(100)", Trial.by(TWO).years(100), 100);
        due("years(0)", Trial.by(TWO).years(0), NONE);
        due("years(101)", Trial.by(TWO).years(101), NONE);
        due("years(-1)", Trial.by(TWO).years(-1), NONE);
        due("none of them", Trial.by(TWO + "goose not all;").years(100), 0);
        due("every third", Trial.by(TWO + "goose year/3*3=year;").years(100), 34);
        due("once, as both stay", Trial.by(TWO + "stays all;").years(100), 1);
        TRIAL.about("chance: n YEARS by the seed (1 .. 100), one ACT: how many with snow");
        due("chance(1)", Trial.by(TWO + "snow 100;").chance(1), 1);
        due("chance(100)", Trial.by(TWO + "snow 100;").chance(100), 100);
        due("chance(0)", Trial.by(TWO + "snow 100;").chance(0), NONE);
        due("chance(101)", Trial.by(TWO + "snow 100;").chance(101), NONE);
        due("chance(-1)", Trial.by(TWO + "snow 100;").chance(-1), NONE);
        for (int n : new int[] {1, 2, 100}) {
            FoolTrade t = Trial.by(TWO + "snow 50;");
            t.chance(n);
            due("YEAR behind chance(" + n + ")", t.has(2), n);
            due("one ACT", t.has(7), 1);
            due("undone at once", t.undo(), true);
            due("YEAR", t.has(2), 0);
            FoolTrade u = Trial.by(TWO);
            u.years(n);
            due("years(" + n + ") is one ACT", u.has(7), 1);
            u.undo();
            due("YEAR", u.has(2), 0);
        }
    }

    private static void taughtBroughtCalmed() {
        TRIAL.about("teach: a PERSON is taught (0 .. 9)");
        FoolTrade t = Trial.by(TWO);
        for (int wits : new int[] {0, 9, 1, 8}) {
            due("teach(0, " + wits + ")", t.teach(0, wits), true);
            due("wits", t.person(0, 2), wits);
            due("again", t.teach(0, wits), false);
        }
        due("teach(0, -1)", t.teach(0, -1), false);
        due("teach(0, 10)", t.teach(0, 10), false);
        due("acts", t.has(7), 4);
        due("refused", t.status(2), 6);
        due("the last person", t.teach(1, 5), true);
        due("behind the last", t.teach(2, 5), false);
        due("ahead of the first", t.teach(-1, 5), false);
        TRIAL.about("bring: where he lives then; to the other VILLAGE; he has not been away then");
        FoolTrade u = awayFor(TWO + "stays all;", 7);
        due("bring(0)", u.bring(0), 0);
        due("YEARS away", u.person(0, 5), 0);
        due("bring(0)", u.bring(0), 1);
        due("YEARS away", u.person(0, 5), 0);
        u.years(2);
        due("YEARS away", u.person(0, 5), 2);
        due("bring(1)", u.bring(1), 0);
        due("bring(2)", u.bring(2), NONE);
        due("bring(-1)", u.bring(-1), NONE);
        TRIAL.about("calm: the quarrel of a VILLAGE is made up (it is 0)");
        FoolTrade v = Trial.by(LAND.replace("quarrel 2", "quarrel 1").replace("quarrel 3", "quarrel 99"));
        due("calm(0) of 1", v.calm(0), true);
        due("quarrel", v.village(0, 1), 0);
        due("the other one's", v.village(1, 1), 99);
        due("calm(0) of 0", v.calm(0), false);
        due("calm(1) of 99", v.calm(1), true);
        due("quarrel", v.village(1, 1), 0);
        due("acts", v.has(7), 2);
    }

    private static void snow() {
        TRIAL.about("II: ahead of each a DRAW of 100: below snow there is snow");
        for (int snow = 0; snow <= 100; snow++) {
            due("the draw 18, snow " + snow, Trial.by(TWO + "snow " + snow + ";").chance(1), 18 < snow ? 1 : 0);
        }
        TRIAL.about("II: there is no SPRING, and no AUTUMN in it (all stay where they are, YEARS away as they are)");
        FoolTrade t = awayFor(TWO + "does 3;fights 9+guests;snow 100;", 98);
        due("chance(2)", t.chance(2), 2);
        due("p lives in b", t.person(0, 1), 1);
        due("p's YEARS away", t.person(0, 5), 98);
        due("r lives in b", t.person(1, 1), 1);
        due("summer in a", t.village(0, 0), 10);
        due("summer in b", t.village(1, 0), 20 + 6 + 6);
        due("quarrel in b", t.village(1, 1), 10);
        due("YEAR", t.has(2), 2);
        due("KEPT", t.has(5), 2);
        FoolTrade stays = awayFor(TWO + "stays all;snow 100;", 5);
        stays.chance(9);
        due("YEARS away", stays.person(0, 5), 5);
        FoolTrade none = Trial.by(TWO + "snow 100;stays all;");
        none.chance(5);
        due("nobody goes", none.has(3), 0);
        due("none is SENT", none.kept(4, 1), NONE);
        due("none is SENT", none.kept(4, 2), NONE);
    }

    private static void draws() {
        TRIAL.about("II: a DRAW of m: x becomes (1103515245 x + 12345) mod 2 to the 31; floor(x / 64) mod m");
        // x: 12345; 1103527590; 1043980748, of 2 to the 31 less 1; by 64: 192, 17242618, 16312199.
        int[] seeds = {0, 1, Integer.MAX_VALUE};
        int[] first = {92, 18, 99};
        for (int i = 0; i < 3; i++) {
            for (int snow : new int[] {first[i], first[i] + 1}) {
                FoolTrade t = Trial.by(TWO + "snow " + snow + ";");
                due("seed(" + seeds[i] + ")", t.seed(seeds[i]), true);
                due("the draw is " + first[i] + ", snow " + snow, t.chance(1), snow - first[i]);
            }
        }
        long x = 1;
        int snowy = 0;
        for (int i = 0; i < 100; i++) {
            x = (1103515245L * x + 12345L) % 2147483648L;
            snowy += x / 64 % 100 < 37 ? 1 : 0;
        }
        due("a hundred draws", Trial.by(TWO + "snow 37;").chance(100), snowy);
        TRIAL.about("seed: it is 1 at first");
        FoolTrade one = Trial.by(TWO + "snow 19;");
        FoolTrade other = Trial.by(TWO + "snow 19;");
        other.seed(1);
        due("as by seed(1)", one.chance(50), other.chance(50));
        due("as by seed(1)", one.chance(1), other.chance(1));
        TRIAL.about("II: a DRAW ahead of each YEAR by the seed, whatever snow is");
        for (String snow : new String[] {"", "snow 0;", "snow 100;"}) {
            FoolTrade t = Trial.by(TWO + snow);
            t.chance(1);
            Trial.treaty(t, TWO + "snow 99;");
            due("the second draw is 99, behind " + snow, t.chance(1), 0);
        }
        TRIAL.about("III: AHEAD are YEARS without DRAWS; YEARS, questions and images have none, either");
        FoolTrade t = Trial.by(TWO + "snow 19;");
        t.years(5);
        t.later(0, 60, 0);
        t.lives(0, 60);
        t.shortage(0);
        t.worth(0, 60);
        t.wits(0);
        t.tells(0, 0);
        Trial.ask(t, "often all");
        Trial.on(t, Trial.imageOf(t));
        t.teach(0, 0);
        t.undo();
        t.chance(0);
        due("the first draw is 18 yet", t.chance(1), 1);
    }

    private static void kept() {
        TRIAL.about("II: KEPT is each YEAR; the last 40 are told");
        for (int n : new int[] {1, 39, 40, 41, 100}) {
            FoolTrade t = Trial.by(TWO + "goose year>0;");
            t.years(n);
            int told = Math.min(40, n);
            due("has(5) behind " + n, t.has(5), told);
            due("the oldest", t.kept(0, 0), n - told);
            due("the oldest's exchange", t.kept(0, 1), n - told == 0 ? NONE : 0);
            due("the latest", t.kept(told - 1, 0), n - 1);
            due("behind the latest", t.kept(told, 0), NONE);
            due("ahead of the oldest", t.kept(-1, 0), NONE);
        }
        FoolTrade t = Trial.by(TWO + "goose year>0;");
        for (int n = 1; n <= 45; n++) {
            t.years(1);
            due("one by one, " + n, t.has(5), Math.min(40, n));
            due("the oldest, " + n, t.kept(0, 0), Math.max(0, n - 40));
        }
        TRIAL.about("II: its number, who was SENT of VILLAGE 0, of VILLAGE 1, if there was an EXCHANGE (NONE each, if not)");
        FoolTrade u = Trial.by(LAND + "person x of b wits 9 oath 0 cheer 0;" + R + P + "goose wits<5 and not year=1;");
        u.years(2);
        due("number", u.kept(0, 0), 0);
        due("of VILLAGE 0", u.kept(0, 1), 2);
        due("of VILLAGE 1", u.kept(0, 2), 1);
        due("number", u.kept(1, 0), 1);
        due("not passed: NONE", u.kept(1, 1), NONE);
        due("not passed: NONE", u.kept(1, 2), NONE);
        due("kept(0, 3)", u.kept(0, 3), NONE);
        due("kept(0, -1)", u.kept(0, -1), NONE);
        due("nothing KEPT without a year", Trial.by(TWO).kept(0, 0), NONE);
    }

    private static void undone() {
        TRIAL.about("II: the last 20 can be undone");
        for (int n : new int[] {1, 19, 20, 21, 45}) {
            FoolTrade t = Trial.by(TWO);
            for (int i = 0; i < n; i++) {
                t.teach(0, i % 2 == 0 ? 4 : i % 10 == 5 ? 9 : 5);
            }
            int can = Math.min(20, n);
            due("has(7) behind " + n, t.has(7), can);
            for (int i = 0; i < can; i++) {
                due("undo() " + i + " behind " + n, t.undo(), true);
                due("has(7)", t.has(7), can - 1 - i);
            }
            due("one more", t.undo(), false);
            due("refused", t.status(4), 1);
            int left = n - can - 1;
            due("wits behind all", t.person(0, 2), left < 0 ? 3 : left % 2 == 0 ? 4 : left % 10 == 5 ? 9 : 5);
        }
        TRIAL.about("undo: the latest ACT is undone (the seed stays)");
        FoolTrade t = Trial.by(TWO + "stays all;snow 19;");
        t.chance(1);
        due("undo()", t.undo(), true);
        due("the second draw is 99", t.chance(1), 0);
        t.undo();
        t.seed(1);
        t.teach(0, 0);
        t.undo();
        due("seed() is no ACT", t.has(7), 0);
        due("the first draw is 18", t.chance(1), 1);
        TRIAL.about("undo: each kind of ACT");
        undoneAct("teach", 0);
        undoneAct("bring", 1);
        undoneAct("calm", 2);
        undoneAct("years", 3);
        undoneAct("chance", 4);
    }

    private static void undoneAct(String name, int which) {
        FoolTrade t = Trial.by(TWO + "stays away<3;fights guests*5+3;snow 50;");
        t.years(2);
        t.bring(1);
        String ahead = View.of(t);
        int acts = t.has(7);
        switch (which) {
            case 0: t.teach(0, 9); break;
            case 1: t.bring(0); break;
            case 2: t.calm(0); break;
            case 3: t.years(7); break;
            default: t.chance(7);
        }
        due(name + " is one ACT", t.has(7), acts + 1);
        due("undo() of " + name, t.undo(), true);
        TRIAL.due("undo() of " + name, View.of(t), ahead);
    }

    private static void keptAndUndone() {
        TRIAL.about("undo: what was KEPT is as it was ahead of the ACT, the last 40 are told again");
        FoolTrade t = Trial.by(TWO + "goose year/2*2=year;");
        t.years(50);
        t.years(100);
        t.chance(3);
        due("the oldest", t.kept(0, 0), 113);
        t.undo();
        due("the oldest", t.kept(0, 0), 110);
        t.undo();
        due("has(5)", t.has(5), 40);
        due("the oldest", t.kept(0, 0), 10);
        due("its exchange", t.kept(0, 1), 0);
        due("the next one's", t.kept(1, 1), NONE);
        t.years(1);
        due("the latest", t.kept(39, 0), 50);
        due("the oldest", t.kept(0, 0), 11);
        t.undo();
        t.undo();
        due("nothing is KEPT", t.has(5), 0);
        due("YEAR", t.has(2), 0);
    }
}
