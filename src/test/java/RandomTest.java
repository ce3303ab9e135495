import java.util.ArrayList;
import java.util.List;
import java.util.Random;

/** Random runs of calls, each answer against the model's; the source has a told seed, so each run is the same. */
public final class RandomTest {
    private static final int RUNS = 700;
    private final Trial trial = new Trial();
    private final Random random;
    private FoolTrade trade = new FoolTrade();
    private Model model = new Model();
    private String lastTreaty = "";

    private RandomTest(long seed) {
        random = new Random(seed);
    }

    public static void main(String[] args) {
        RandomTest test = new RandomTest(args.length > 0 ? Long.parseLong(args[0]) : 20261118L);
        for (int run = 0; run < RUNS; run++) {
            test.run(run);
        }
        test.trial.end("RandomTest");
    }

    private int upTo(int most) {
        return random.nextInt(most + 1);
    }

    private boolean one(int in) {
        return random.nextInt(in) == 0;
    }

    private String pick(String... of) {
        return of[random.nextInt(of.length)];
    }

    private String gap() {
        return one(8) ? pick("  ", "\n", " \n ") : " ";
    }

    private String thin() {
        return one(4) ? pick(" ", "\n") : "";
    }

    private String sum(String rule, int deep) {
        StringBuilder b = new StringBuilder(product(rule, deep));
        while (one(3)) {
            b.append(thin()).append(pick("+", "-")).append(thin()).append(product(rule, deep));
        }
        return b.toString();
    }

    private String product(String rule, int deep) {
        StringBuilder b = new StringBuilder(part(rule, deep));
        while (one(4)) {
            b.append(thin()).append(pick("*", "/")).append(thin()).append(part(rule, deep));
        }
        return b.toString();
    }

    private String part(String rule, int deep) {
        if (deep > 0 && one(4)) {
            return "(" + thin() + sum(rule, deep - 1) + thin() + ")";
        }
        if (deep > 0 && one(6)) {
            return pick("min", "max") + thin() + "(" + sum(rule, deep - 1) + "," + thin() + sum(rule, deep - 1) + ")";
        }
        if (rule.equals("question") && deep > 0 && one(4)) {
            return pick("harvest", "does") + gap() + part(rule, deep - 1);
        }
        if (one(3)) {
            return String.valueOf(one(6) ? upTo(9999) : upTo(9));
        }
        if (one(500)) {
            return pick("guests", "number", "lives", "home", "wits", "quarrel", "foo");
        }
        switch (rule) {
            case "fights": return pick("harvest", "quarrel", "year", "guests", "guests");
            case "question": return pick("number", "wits", "oath", "cheer", "away", "lives", "home", "year");
            default: return pick("harvest", "quarrel", "year", "wits", "wits", "oath", "cheer", "away");
        }
    }

    private String test(String rule, int deep) {
        StringBuilder b = new StringBuilder(fact(rule, deep));
        while (one(3)) {
            b.append(" ").append(pick("or", "and")).append(gap()).append(fact(rule, deep));
        }
        return b.toString();
    }

    private String fact(String rule, int deep) {
        if (deep > 0 && one(6)) {
            return "not" + gap() + fact(rule, deep - 1);
        }
        if (deep > 0 && one(6)) {
            return "[" + test(rule, deep - 1) + thin() + "]";
        }
        if (one(6)) {
            return "all";
        }
        return sum(rule, deep) + thin() + pick("<", ">", "=") + thin() + sum(rule, deep);
    }

    private int deep() {
        return one(40) ? 8 : upTo(3);
    }

    private String treatyText() {
        StringBuilder b = new StringBuilder();
        String[] villages = {pick("a", "upper", "first"), pick("b", "lower", "last")};
        for (String v : villages) {
            b.append("village").append(gap()).append(v).append(" harvest ").append(one(4) ? upTo(999) : upTo(60));
            b.append(" quarrel ").append(one(4) ? upTo(99) : upTo(9)).append(thin()).append(";").append(thin());
        }
        List<String> statements = new ArrayList<>();
        int people = one(60) ? 9 : one(6) ? upTo(3) : 4 + upTo(4);
        for (int i = 0; i < people; i++) {
            String name = one(300) ? pick("p", "upper", "sevenly") : "p" + (char) ('a' + i);
            statements.add("person " + name + " of " + (one(400) ? "x" : pick(villages)) + " wits " + upTo(9) + " oath " + upTo(9) + gap() + "cheer " + upTo(9));
        }
        for (String rule : new String[] {"sends", "does", "fights"}) {
            if (!one(3)) {
                String own = rule.equals("does") && one(2) ? trade() : sum(rule, deep());
                statements.add(random.nextInt(statements.size() + 1), rule + gap() + own);
            }
        }
        for (String rule : new String[] {"goose", "stays"}) {
            if (!one(3)) {
                statements.add(random.nextInt(statements.size() + 1), rule + gap() + test(rule, deep()));
            }
        }
        while (one(2)) {
            statements.add(random.nextInt(statements.size() + 1), "snow " + upTo(100));
        }
        if (one(50)) {
            statements.add("sends " + sum("sends", 1));
        }
        if (one(60)) {
            for (int i = upTo(4) + 66; i > 0; i--) {
                statements.add("snow " + upTo(9));
            }
        }
        for (String s : statements) {
            b.append(s).append(thin()).append(";").append(thin());
        }
        return one(5) ? spoilt(b.toString()) : b.toString();
    }

    /** What one does hangs on where he lives, so that both villages may gain. */
    private String trade() {
        return pick("(wits-cheer)*(harvest-", "(oath-wits)*(quarrel-", "(cheer-4)*(harvest/9-") + upTo(30) + ")/" + (1 + upTo(4));
    }

    private String spoilt(String text) {
        StringBuilder b = new StringBuilder(text);
        for (int i = upTo(2); i >= 0 && b.length() > 0; i--) {
            int at = random.nextInt(b.length());
            switch (upTo(3)) {
                case 0: b.deleteCharAt(at); break;
                case 1: b.insert(at, pick("(", "[", "not ", "7", "12345", "x", ";", " ", "\t", "A", "1000", "all", "or ", "\u00e9")); break;
                case 2: b.setLength(at); break;
                default: b.setCharAt(at, pick("(", ")", "]", "7", "x", ";", " ", "<", ",").charAt(0));
            }
        }
        return b.toString();
    }

    private String questionText() {
        String verb = pick("first", "last", "often", "total", "most", "least");
        boolean test = verb.equals("first") || verb.equals("last") || verb.equals("often");
        String text = thin() + verb + gap() + (test ? test("question", deep()) : sum("question", deep())) + thin();
        return one(6) ? spoilt(text) : text;
    }

    private void feed(String text) {
        byte[] bytes = Trial.bytes(text);
        for (int at = 0; at < bytes.length; at += 20) {
            int[] w = new int[5];
            for (int i = 0; i < 5; i++) {
                w[i] = Trial.word(bytes, at + 4 * i);
            }
            due("feed", trade.feed(w[0], w[1], w[2], w[3], w[4]), model.feed(w[0], w[1], w[2], w[3], w[4]));
        }
        if (bytes.length > 0) {
            due("end", bit(trade.end(bytes.length)), bit(model.end(bytes.length)));
        }
    }

    private static long bit(boolean b) {
        return b ? 1 : 0;
    }

    private void due(String call, long got, long want) {
        trial.due(call + " by " + lastTreaty.replace('\n', ' '), got, want);
    }

    private void run(int run) {
        trade = new FoolTrade();
        model = new Model();
        if (one(20)) {
            lastTreaty = "none";
        } else {
            tellTreaty();
        }
        for (int i = 0; i < 60; i++) {
            step();
        }
        for (int k = 0; k < 10; k++) {
            due("has(" + k + ")", trade.has(k), model.has(k));
            due("status(" + k + ")", trade.status(k), model.status(k));
        }
        for (int k = 0; k <= 40; k += 1 + upTo(9)) {
            for (int what = 0; what < 4; what++) {
                due("kept(" + k + ", " + what + ")", trade.kept(k, what), model.kept(k, what));
            }
        }
    }

    private void tellTreaty() {
        for (int tries = 0; tries < 3; tries++) {
            do {
                lastTreaty = treatyText();
            } while (lastTreaty.length() > 1600 && !one(20));
            trade.end(0);
            model.end(0);
            feed(lastTreaty);
            int statements = model.treaty();
            due("treaty()", trade.treaty(), statements);
            faults();
            if (statements != Model.NONE) {
                return;
            }
        }
    }

    private void faults() {
        for (int what = -1; what < 3; what++) {
            due("fault(" + what + ")", trade.fault(what), model.fault(what));
        }
    }

    private int near(int most) {
        return one(12) ? pick("-1", "-2", String.valueOf(most + 1), "2147483647", "-2147483648").transform(Integer::parseInt) : upTo(most);
    }

    private void step() {
        int a = near(Math.max(0, model.now.people.size() - 1));
        int b = near(Math.max(0, model.now.people.size() - 1));
        for (int i = 0; i < 9 && model.gain(a, b, 0) == Model.NOTHING; i++) {
            a = upTo(7);
            b = upTo(7);
        }
        int v = near(1);
        int what = near(7);
        switch (upTo(33)) {
            case 0: due("letter", trade.letter(v, a, what), model.letter(v, a, what)); break;
            case 1: due("village" + v + "," + what, trade.village(v, what), model.village(v, what)); break;
            case 2: case 3: due("person" + a + "," + what, trade.person(a, what), model.person(a, what)); break;
            case 4: due("does", trade.does(a, v), model.does(a, v)); break;
            case 5: case 6: { int n = near(60); what = near(1); due("later" + v + "," + n + "," + what, trade.later(v, n, what), model.later(v, n, what)); break; }
            case 7: { int n = near(60); due("lives" + a + "," + n, trade.lives(a, n), model.lives(a, n)); break; }
            case 8: due("shortage" + v, trade.shortage(v), model.shortage(v)); break;
            case 9: due("gain" + a + "," + b + "," + v, trade.gain(a, b, v), model.gain(a, b, v)); break;
            case 10: what = near(2); due("bargain" + what, trade.bargain(what), model.bargain(what)); break;
            case 11: what = near(1); due("rest" + what, trade.rest(what), model.rest(what)); break;
            case 12: what = near(3) - 1; due("exam" + what, trade.exam(what), model.exam(what)); break;
            case 13: due("feign" + a, trade.feign(a), model.feign(a)); break;
            case 14: { int n = near(60); due("worth" + v + "," + n, trade.worth(v, n), model.worth(v, n)); break; }
            case 15: case 16: look(); break;
            case 17: due("wits" + a, trade.wits(a), model.wits(a)); break;
            case 18: what = near(2); due("tells" + a + "," + what, trade.tells(a, what), model.tells(a, what)); break;
            case 19: { int w = near(9); due("teach" + a + "," + w, bit(trade.teach(a, w)), bit(model.teach(a, w))); break; }
            case 20: due("bring" + a, trade.bring(a), model.bring(a)); break;
            case 21: due("calm" + v, bit(trade.calm(v)), bit(model.calm(v))); break;
            case 22: { int n = one(4) ? near(100) : near(5); due("years" + n, trade.years(n), model.years(n)); break; }
            case 23: { int n = one(4) ? near(100) : near(5); due("chance" + n, trade.chance(n), model.chance(n)); break; }
            case 24: due("undo", bit(trade.undo()), bit(model.undo())); break;
            case 25: { int n = one(9) ? -upTo(9) : random.nextInt(); due("seed" + n, bit(trade.seed(n)), bit(model.seed(n))); break; }
            case 26: case 27: question(); break;
            case 28: imaged(); break;
            case 29: backTo(); break;
            case 30: if (one(20)) { tellTreaty(); } break;
            case 31: { int n = near(30); due("end" + n, bit(trade.end(n)), bit(model.end(n))); break; }
            case 32: faults(); break;
            default: due("has" + what, trade.has(what), model.has(what));
        }
    }

    private void question() {
        String text = questionText();
        trade.end(0);
        model.end(0);
        feed(text);
        due("ask " + text, trade.ask(), model.ask());
        faults();
    }

    private void imaged() {
        due("image", trade.image(), model.image());
        for (int k = -1; k < 35; k++) {
            due("octet" + k, trade.octet(k), model.octet(k));
        }
    }

    /** Rows that are so by the model for some wits, spoilt now and then. */
    private void look() {
        StringBuilder b = new StringBuilder();
        for (int i = one(10) ? 16 : upTo(2); i >= 0; i--) {
            int ahead = one(20) ? 31 : upTo(one(2) ? 3 : 30);
            int v = one(30) ? 2 : upTo(1);
            int harvest = Math.max(0, model.later(v, ahead, 0)) + (one(4) ? upTo(4) : 0);
            b.append((char) ahead).append((char) v).append((char) (harvest >> 8)).append((char) (harvest & 255));
        }
        if (one(20)) {
            b.append('x');
        }
        feed(b.toString());
        due("see", trade.see(), model.see());
    }

    private void backTo() {
        model.image();
        trade.image();
        StringBuilder b = new StringBuilder();
        for (int o : model.picture) {
            b.append((char) o);
        }
        int n = b.length();
        for (int i = upTo(3); i > 0; i--) {
            b.setCharAt(upTo(n - 2), (char) (one(3) ? upTo(255) : upTo(9)));
        }
        if (one(3) && n > 3) {
            int year = one(2) ? 999 - upTo(40) : upTo(1100);
            b.setCharAt(0, (char) (year >> 8));
            b.setCharAt(1, (char) (year & 255));
        }
        int c = 199;
        for (int i = 0; i < n - 1; i++) {
            c = (3 * c + b.charAt(i)) % 251;
        }
        b.setCharAt(n - 1, (char) (one(10) ? upTo(255) : c));
        feed(one(20) ? b.append('x').toString() : b.toString());
        due("on", bit(trade.on()), bit(model.on()));
    }
}
