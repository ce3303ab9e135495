import java.util.ArrayDeque;
import java.util.ArrayList;
import java.util.Arrays;
import java.util.Deque;
import java.util.HashMap;
import java.util.List;
import java.util.Map;
import java.util.Set;

/** A second program by the same document, written for plainness with the whole Java library: the random test's measure. */
final class Model {
    static final int NONE = -1;
    static final long NOTHING = -1000000000000000L;
    private static final Set<String> OWN = Set.of("harvest", "quarrel", "village", "person", "of", "wits", "oath", "cheer",
        "sends", "goose", "does", "fights", "stays", "snow", "year", "away", "guests", "number", "lives", "home", "or", "and",
        "not", "all", "min", "max");

    static final class Fault extends RuntimeException {
        private static final long serialVersionUID = 1L;
        final int kind;
        final int place;

        Fault(int kind, int place) {
            this.kind = kind;
            this.place = place;
        }
    }

    interface Expr {
        long at(Person p, int village, State s);
    }

    static final class Person {
        String name;
        int number;
        int home;
        int wits;
        int oath;
        int cheer;
        boolean isAway;
        int away;

        int lives() {
            return isAway ? 1 - home : home;
        }

        Person copy() {
            Person p = new Person();
            p.name = name;
            p.number = number;
            p.home = home;
            p.wits = wits;
            p.oath = oath;
            p.cheer = cheer;
            p.isAway = isAway;
            p.away = away;
            return p;
        }
    }

    static final class State {
        int year;
        int[] harvest = new int[2];
        int[] quarrel = new int[2];
        List<Person> people = new ArrayList<>();
        List<int[]> kept = new ArrayList<>();

        State copy() {
            State s = new State();
            s.year = year;
            s.harvest = harvest.clone();
            s.quarrel = quarrel.clone();
            for (Person p : people) {
                s.people.add(p.copy());
            }
            s.kept.addAll(kept);
            return s;
        }

        long guests(int village) {
            return people.stream().filter(p -> p.lives() == village && p.home != village).count();
        }
    }

    static final class Law {
        final List<String> villages = new ArrayList<>();
        final State start = new State();
        final Map<String, Expr> rules = new HashMap<>();
        int statements;
        int snow;

        Expr rule(String name) {
            return rules.get(name);
        }
    }

    private static long clamp(long v) {
        return Math.max(-1000000, Math.min(1000000, v));
    }

    /** Reads along the bytes without looking at more than stands next. */
    final class Text {
        final String t;
        int at = 0;
        String where;

        Text(String t) {
            this.t = t;
        }

        char c(int i) {
            return i < t.length() ? t.charAt(i) : 0;
        }

        boolean letter(int i) {
            return i < t.length() && c(i) >= 'a' && c(i) <= 'z';
        }

        boolean digit(int i) {
            return i < t.length() && c(i) >= '0' && c(i) <= '9';
        }

        void blanks() {
            while (at < t.length() && (c(at) == 32 || c(at) == 10)) {
                at++;
            }
        }

        Fault bad() {
            return new Fault(1, at);
        }

        /** The next whole word, "" if there stands none. */
        String peek() {
            blanks();
            int to = at;
            if (at > 0 && digit(at - 1)) {
                return "";
            }
            while (letter(to)) {
                to++;
            }
            return t.substring(at, to);
        }

        boolean word(String w) {
            if (!peek().equals(w)) {
                return false;
            }
            at += w.length();
            return true;
        }

        void must(String w) {
            if (!word(w)) {
                throw bad();
            }
        }

        boolean sign(char s) {
            blanks();
            if (at < t.length() && t.charAt(at) == s) {
                at++;
                return true;
            }
            return false;
        }

        void mustSign(char s) {
            if (!sign(s)) {
                throw bad();
            }
        }

        boolean numberNext() {
            blanks();
            return digit(at) && !(at > 0 && letter(at - 1));
        }

        int number(int most) {
            if (!numberNext()) {
                throw bad();
            }
            int from = at;
            while (digit(at)) {
                if (at - from == 4) {
                    throw bad();
                }
                at++;
            }
            int v = Integer.parseInt(t.substring(from, at));
            if (v > most) {
                throw new Fault(2, from);
            }
            return v;
        }

        String name() {
            String w = peek();
            if (w.isEmpty() || OWN.contains(w)) {
                throw bad();
            }
            if (w.length() > 6) {
                throw new Fault(1, at + 6);
            }
            return w;
        }

        void open(Deque<String> open, String what, int place) {
            if (open.size() == 6) {
                throw new Fault(4, place);
            }
            open.push(what);
        }

        Expr test(Deque<String> open) {
            Expr e = both(open);
            while (word("or")) {
                Expr l = e;
                Expr r = both(open);
                e = (p, v, s) -> l.at(p, v, s) != 0 || r.at(p, v, s) != 0 ? 1 : 0;
            }
            return e;
        }

        Expr both(Deque<String> open) {
            Expr e = fact(open);
            while (word("and")) {
                Expr l = e;
                Expr r = fact(open);
                e = (p, v, s) -> l.at(p, v, s) != 0 && r.at(p, v, s) != 0 ? 1 : 0;
            }
            return e;
        }

        Expr fact(Deque<String> open) {
            if (word("not")) {
                open(open, "not", at - 3);
                Expr e = fact(open);
                open.pop();
                return (p, v, s) -> 1 - e.at(p, v, s);
            }
            if (sign('[')) {
                open(open, "[", at - 1);
                Expr e = test(open);
                mustSign(']');
                open.pop();
                return e;
            }
            if (word("all")) {
                return (p, v, s) -> 1;
            }
            Expr l = sum(open);
            if (sign('<')) {
                Expr r = sum(open);
                return (p, v, s) -> l.at(p, v, s) < r.at(p, v, s) ? 1 : 0;
            }
            if (sign('>')) {
                Expr r = sum(open);
                return (p, v, s) -> l.at(p, v, s) > r.at(p, v, s) ? 1 : 0;
            }
            mustSign('=');
            Expr r = sum(open);
            return (p, v, s) -> l.at(p, v, s) == r.at(p, v, s) ? 1 : 0;
        }

        Expr sum(Deque<String> open) {
            Expr e = product(open);
            while (true) {
                Expr l = e;
                if (sign('+')) {
                    Expr r = product(open);
                    e = (p, v, s) -> clamp(l.at(p, v, s) + r.at(p, v, s));
                } else if (sign('-')) {
                    Expr r = product(open);
                    e = (p, v, s) -> clamp(l.at(p, v, s) - r.at(p, v, s));
                } else {
                    return e;
                }
            }
        }

        Expr product(Deque<String> open) {
            Expr e = part(open);
            while (true) {
                Expr l = e;
                if (sign('*')) {
                    Expr r = part(open);
                    e = (p, v, s) -> clamp(l.at(p, v, s) * r.at(p, v, s));
                } else if (sign('/')) {
                    Expr r = part(open);
                    e = (p, v, s) -> r.at(p, v, s) == 0 ? 0 : (long) Math.floor((double) l.at(p, v, s) / r.at(p, v, s));
                } else {
                    return e;
                }
            }
        }

        Expr part(Deque<String> open) {
            if (numberNext()) {
                int n = number(9999);
                return (p, v, s) -> n;
            }
            if (sign('(')) {
                open(open, "(", at - 1);
                Expr e = sum(open);
                mustSign(')');
                open.pop();
                return e;
            }
            String w = peek();
            if (w.equals("min") || w.equals("max")) {
                must(w);
                mustSign('(');
                open(open, "(", at - 1);
                Expr l = sum(open);
                mustSign(',');
                Expr r = sum(open);
                mustSign(')');
                open.pop();
                return w.equals("min") ? (p, v, s) -> Math.min(l.at(p, v, s), r.at(p, v, s)) : (p, v, s) -> Math.max(l.at(p, v, s), r.at(p, v, s));
            }
            return where.equals("question") ? asked(open, w) : told(w);
        }

        Expr told(String w) {
            boolean fights = where.equals("fights");
            Expr e;
            switch (w) {
                case "harvest": e = (p, v, s) -> s.harvest[v]; break;
                case "quarrel": e = (p, v, s) -> s.quarrel[v]; break;
                case "year": e = (p, v, s) -> s.year; break;
                case "guests": e = fights ? (p, v, s) -> s.guests(v) : null; break;
                case "wits": e = fights ? null : (p, v, s) -> p.wits; break;
                case "oath": e = fights ? null : (p, v, s) -> p.oath; break;
                case "cheer": e = fights ? null : (p, v, s) -> p.cheer; break;
                case "away": e = fights ? null : (p, v, s) -> p.away; break;
                default: e = null;
            }
            if (e == null) {
                throw bad();
            }
            must(w);
            return e;
        }

        Expr asked(Deque<String> open, String w) {
            if (w.equals("harvest") || w.equals("does")) {
                must(w);
                open(open, w, at - w.length());
                Expr e = part(open);
                open.pop();
                if (w.equals("harvest")) {
                    return (p, v, s) -> { long k = e.at(p, v, s); return k == 0 || k == 1 ? s.harvest[(int) k] : 0; };
                }
                return (p, v, s) -> { long k = e.at(p, v, s); return k == 0 || k == 1 ? law.rule("does").at(p, (int) k, s) : 0; };
            }
            Expr e;
            switch (w) {
                case "number": e = (p, v, s) -> p.number; break;
                case "wits": e = (p, v, s) -> p.wits; break;
                case "oath": e = (p, v, s) -> p.oath; break;
                case "cheer": e = (p, v, s) -> p.cheer; break;
                case "away": e = (p, v, s) -> p.away; break;
                case "lives": e = (p, v, s) -> p.lives(); break;
                case "home": e = (p, v, s) -> p.home; break;
                case "year": e = (p, v, s) -> s.year; break;
                default: throw bad();
            }
            must(w);
            return e;
        }

        Law law() {
            Law law = new Law();
            while (true) {
                blanks();
                if (at == t.length()) {
                    if (law.villages.size() < 2) {
                        throw bad();
                    }
                    break;
                }
                if (law.statements == 80) {
                    throw new Fault(5, at);
                }
                statement(law);
                mustSign(';');
                law.statements++;
            }
            law.rules.putIfAbsent("sends", (p, v, s) -> 9 - p.wits);
            law.rules.putIfAbsent("goose", (p, v, s) -> p.wits < 5 ? 1 : 0);
            law.rules.putIfAbsent("does", (p, v, s) -> p.wits - 4);
            law.rules.putIfAbsent("fights", (p, v, s) -> s.quarrel[v]);
            law.rules.putIfAbsent("stays", (p, v, s) -> 0);
            return law;
        }

        void statement(Law law) {
            if (law.villages.size() < 2) {
                must("village");
                String name = newName(law);
                must("harvest");
                int harvest = number(999);
                must("quarrel");
                int quarrel = number(99);
                law.start.harvest[law.villages.size()] = harvest;
                law.start.quarrel[law.villages.size()] = quarrel;
                law.villages.add(name);
                return;
            }
            String w = peek();
            int from = at;
            switch (w) {
                case "person": {
                    if (law.start.people.size() == 8) {
                        throw new Fault(5, at);
                    }
                    must(w);
                    Person p = new Person();
                    p.name = newName(law);
                    must("of");
                    String village = name();
                    p.home = law.villages.indexOf(village);
                    if (p.home < 0) {
                        throw new Fault(3, at);
                    }
                    at += village.length();
                    must("wits");
                    p.wits = number(9);
                    must("oath");
                    p.oath = number(9);
                    must("cheer");
                    p.cheer = number(9);
                    p.number = law.start.people.size();
                    law.start.people.add(p);
                    return;
                }
                case "snow":
                    must(w);
                    law.snow = number(100);
                    return;
                case "sends": case "goose": case "does": case "fights": case "stays":
                    if (law.rules.containsKey(w)) {
                        throw new Fault(5, from);
                    }
                    must(w);
                    where = w;
                    law.rules.put(w, w.equals("goose") || w.equals("stays") ? test(new ArrayDeque<>()) : sum(new ArrayDeque<>()));
                    return;
                default:
                    throw bad();
            }
        }

        String newName(Law law) {
            String name = name();
            if (law.villages.contains(name) || law.start.people.stream().anyMatch(p -> p.name.equals(name))) {
                throw new Fault(3, at);
            }
            at += name.length();
            return name;
        }
    }

    Law law;
    State now = new State();
    final Deque<State> acts = new ArrayDeque<>();
    List<int[]> seen = new ArrayList<>();
    StringBuilder tape = new StringBuilder();
    int[] picture = new int[0];
    final int[] refused = new int[6];
    long x = 1;
    int faultKind = 0;
    int faultPlace = NONE;

    private int no(int kind) {
        refused[kind]++;
        return NONE;
    }

    private String takeTape() {
        String t = tape.toString();
        tape = new StringBuilder();
        return t;
    }

    int feed(int a, int b, int c, int d, int e) {
        if (tape.length() > 1580) {
            return no(0);
        }
        for (int n : new int[] {a, b, c, d, e}) {
            tape.append((char) (n >>> 24)).append((char) (n >> 16 & 255)).append((char) (n >> 8 & 255)).append((char) (n & 255));
        }
        return tape.length();
    }

    boolean end(int n) {
        if (n < 0 || n > tape.length()) {
            no(0);
            return false;
        }
        tape.setLength(n);
        return true;
    }

    int treaty() {
        try {
            Law read = new Text(takeTape()).law();
            law = read;
            now = read.start.copy();
            acts.clear();
            seen.clear();
            faultKind = 0;
            faultPlace = NONE;
            return read.statements;
        } catch (Fault f) {
            faultKind = f.kind;
            faultPlace = f.place;
            return no(1);
        }
    }

    int fault(int what) {
        return what == 0 ? faultKind : what == 1 ? faultPlace : NONE;
    }

    private boolean isVillage(int v) {
        return law != null && v >= 0 && v < 2;
    }

    private boolean isPerson(int p) {
        return law != null && p >= 0 && p < now.people.size();
    }

    private boolean passes(State s, Person p) {
        return law.rule("goose").at(p, p.lives(), s) != 0;
    }

    private List<Person> ownAtHome(State s, int v) {
        List<Person> own = new ArrayList<>();
        for (Person p : s.people) {
            if (p.home == v && !p.isAway) {
                own.add(p);
            }
        }
        return own;
    }

    private Person sent(State s, int v) {
        Person best = null;
        for (Person p : ownAtHome(s, v)) {
            if (best == null || law.rule("sends").at(p, v, s) > law.rule("sends").at(best, v, s)) {
                best = p;
            }
        }
        return best;
    }

    /** Mode: 0 as it comes, 1 nobody SENT, 2 snow, 3 the told pair. */
    private boolean year(State s, int mode, int one, int other) {
        boolean exchange = false;
        int a = NONE;
        int b = NONE;
        if (mode == 0) {
            Person p = sent(s, 0);
            Person q = sent(s, 1);
            exchange = p != null && q != null && passes(s, p) && passes(s, q);
            if (exchange) {
                a = p.number;
                b = q.number;
            }
        } else if (mode == 3) {
            exchange = true;
            a = one;
            b = other;
        }
        if (exchange) {
            s.people.get(a).isAway = true;
            s.people.get(b).isAway = true;
        }
        long[] more = new long[2];
        for (Person p : s.people) {
            more[p.lives()] += law.rule("does").at(p, p.lives(), s);
        }
        for (int v = 0; v < 2; v++) {
            s.harvest[v] = (int) Math.max(0, Math.min(999, s.harvest[v] + more[v]));
        }
        for (int v = 0; v < 2; v++) {
            s.quarrel[v] = (int) Math.max(0, Math.min(99, law.rule("fights").at(null, v, s)));
        }
        if (mode != 2) {
            for (Person p : s.people) {
                if (p.isAway) {
                    if (law.rule("stays").at(p, p.lives(), s) != 0) {
                        p.away = Math.min(99, p.away + 1);
                    } else {
                        p.isAway = false;
                        p.away = 0;
                    }
                }
            }
        }
        s.kept.add(new int[] {s.year, a, b});
        s.year++;
        return exchange;
    }

    /** The state behind n years ahead, null when there are not so many. */
    private State ahead(State from, int n, int mode) {
        if (n < 0 || from.year + n > 999) {
            return null;
        }
        State s = from.copy();
        for (int i = 0; i < n; i++) {
            year(s, mode, 0, 0);
        }
        return s;
    }

    private List<int[]> told() {
        return now.kept.subList(Math.max(0, now.kept.size() - 40), now.kept.size());
    }

    int has(int what) {
        switch (what) {
            case 0: return law == null ? 0 : 2;
            case 1: return now.people.size();
            case 2: return now.year;
            case 3: return (int) now.people.stream().filter(p -> p.isAway).count();
            case 4: return (int) now.people.stream().filter(p -> passes(now, p)).count();
            case 5: return told().size();
            case 6: return seen.size();
            case 7: return acts.size();
            default: return NONE;
        }
    }

    int letter(int kind, int which, int k) {
        String name;
        if (kind == 0 && isVillage(which)) {
            name = law.villages.get(which);
        } else if (kind == 1 && isPerson(which)) {
            name = now.people.get(which).name;
        } else {
            return NONE;
        }
        return k < 0 || k > 5 ? NONE : k < name.length() ? name.charAt(k) - 96 : 0;
    }

    int village(int v, int what) {
        if (!isVillage(v)) {
            return NONE;
        }
        Person s = sent(now, v);
        switch (what) {
            case 0: return now.harvest[v];
            case 1: return now.quarrel[v];
            case 2: return (int) now.people.stream().filter(p -> p.lives() == v).count();
            case 3: return ownAtHome(now, v).size();
            case 4: return s == null ? NONE : s.number;
            case 5: return s != null && passes(now, s) ? 1 : 0;
            default: return NONE;
        }
    }

    int person(int n, int what) {
        if (!isPerson(n)) {
            return NONE;
        }
        Person p = now.people.get(n);
        switch (what) {
            case 0: return p.home;
            case 1: return p.lives();
            case 2: return p.wits;
            case 3: return p.oath;
            case 4: return p.cheer;
            case 5: return p.away;
            case 6: return passes(now, p) ? 1 : 0;
            default: return NONE;
        }
    }

    long does(int n, int v) {
        return isPerson(n) && isVillage(v) ? law.rule("does").at(now.people.get(n), v, now) : NOTHING;
    }

    int kept(int k, int what) {
        return k < 0 || k >= told().size() || what < 0 || what > 2 ? NONE : told().get(k)[what];
    }

    int later(int v, int n, int what) {
        State s = isVillage(v) && n <= 60 ? ahead(now, n, 0) : null;
        return s == null ? NONE : what == 0 ? s.harvest[v] : what == 1 ? s.quarrel[v] : NONE;
    }

    int lives(int p, int n) {
        State s = isPerson(p) && n <= 60 ? ahead(now, n, 0) : null;
        return s == null ? NONE : s.people.get(p).lives();
    }

    int shortage(int v) {
        for (int n = 0; n <= 60 && isVillage(v); n++) {
            State s = ahead(now, n, 0);
            if (s == null) {
                return NONE;
            }
            if (ownAtHome(s, v).isEmpty()) {
                return n;
            }
        }
        return NONE;
    }

    private State with(int one, int other) {
        State s = now.copy();
        year(s, 3, one, other);
        return s;
    }

    private boolean canGo(int p, int v) {
        return isPerson(p) && now.people.get(p).home == v && !now.people.get(p).isAway;
    }

    long gain(int one, int other, int v) {
        if (!isVillage(v) || !canGo(one, 0) || !canGo(other, 1) || now.year == 999) {
            return NOTHING;
        }
        return with(one, other).harvest[v] - ahead(now, 1, 1).harvest[v];
    }

    int bargain(int what) {
        int[] best = null;
        for (int i = 0; i < now.people.size(); i++) {
            for (int j = 0; j < now.people.size(); j++) {
                if (gain(i, j, 0) != NOTHING) {
                    int less = (int) Math.min(gain(i, j, 0), gain(i, j, 1));
                    if (less > 0 && (best == null || less > best[2])) {
                        best = new int[] {i, j, less};
                    }
                }
            }
        }
        return best == null || what < 0 || what > 2 ? NONE : best[what];
    }

    int rest(int what) {
        if (what < 0 || what > 1 || now.year == 999 || law == null) {
            return NONE;
        }
        for (Person p : ownAtHome(now, 0)) {
            for (Person q : ownAtHome(now, 1)) {
                State s = with(p.number, q.number);
                boolean good = ownAtHome(now, 0).stream().noneMatch(r -> with(r.number, q.number).harvest[0] > s.harvest[0])
                    && ownAtHome(now, 1).stream().noneMatch(r -> with(p.number, r.number).harvest[1] > s.harvest[1]);
                if (good) {
                    return what == 0 ? p.number : q.number;
                }
            }
        }
        return NONE;
    }

    private boolean parts(List<Integer> questions) {
        Map<String, Boolean> by = new HashMap<>();
        for (Person p : now.people) {
            StringBuilder answers = new StringBuilder();
            for (int q : questions) {
                int trait = q / 10 == 0 ? p.wits : q / 10 == 1 ? p.oath : p.cheer;
                answers.append(trait < q % 10 ? 'y' : 'n');
            }
            Boolean before = by.putIfAbsent(answers.toString(), passes(now, p));
            if (before != null && before != passes(now, p)) {
                return false;
            }
        }
        return true;
    }

    private List<Integer> findExam() {
        List<Integer> all = new ArrayList<>();
        for (int q = 1; q < 30; q++) {
            if (q % 10 != 0) {
                all.add(q);
            }
        }
        if (parts(List.of())) {
            return List.of();
        }
        for (int a : all) {
            if (parts(List.of(a))) {
                return List.of(a);
            }
        }
        for (int a : all) {
            for (int b : all) {
                if (b > a && parts(List.of(a, b))) {
                    return List.of(a, b);
                }
            }
        }
        for (int a : all) {
            for (int b : all) {
                for (int c : all) {
                    if (b > a && c > b && parts(List.of(a, b, c))) {
                        return List.of(a, b, c);
                    }
                }
            }
        }
        return null;
    }

    int exam(int k) {
        List<Integer> e = law == null ? null : findExam();
        if (e == null) {
            return NONE;
        }
        return k == NONE ? e.size() : k >= 0 && k < e.size() ? e.get(k) : NONE;
    }

    int feign(int n) {
        if (!isPerson(n) || now.people.get(n).isAway || now.year == 999) {
            return NONE;
        }
        int own = now.people.get(n).wits;
        int best = NONE;
        for (int w = 0; w < 10; w++) {
            State s = now.copy();
            Person p = s.people.get(n);
            p.wits = w;
            if (sent(s, p.home) == p && passes(s, p) && (best == NONE || Math.abs(w - own) < Math.abs(best - own))) {
                best = w;
            }
        }
        return best;
    }

    long worth(int v, int n) {
        State s = isVillage(v) && n >= 1 && n <= 60 ? ahead(now, n, 0) : null;
        return s == null ? NOTHING : s.harvest[v] - ahead(now, n, 1).harvest[v];
    }

    int see() {
        String t = takeTape();
        boolean good = law != null && t.length() >= 4 && t.length() <= 64 && t.length() % 4 == 0;
        List<int[]> rows = new ArrayList<>();
        for (int i = 0; good && i < t.length(); i += 4) {
            int[] row = {t.charAt(i), t.charAt(i + 1), t.charAt(i + 2) * 256 + t.charAt(i + 3)};
            good = row[0] <= 30 && row[1] <= 1 && row[2] <= 999;
            rows.add(row);
        }
        if (!good) {
            return no(1);
        }
        seen = rows;
        return rows.size();
    }

    private State withWits(int person, int w, int n) {
        State s = now.copy();
        s.people.get(person).wits = w;
        return ahead(s, n, 0);
    }

    int wits(int n) {
        if (!isPerson(n)) {
            return NONE;
        }
        int bits = 0;
        for (int w = 0; w < 10; w++) {
            boolean fits = true;
            for (int[] row : seen) {
                State s = withWits(n, w, row[0]);
                fits = fits && s != null && s.harvest[row[1]] == row[2];
            }
            bits |= fits ? 1 << w : 0;
        }
        return bits;
    }

    int tells(int n, int what) {
        if (!isPerson(n) || what < 0 || what > 2) {
            return NONE;
        }
        int bits = wits(n);
        int[] best = null;
        for (int y = 1; y <= 30 && now.year + y <= 999 && bits != 0; y++) {
            for (int v = 0; v < 2; v++) {
                Map<Integer, Integer> groups = new HashMap<>();
                for (int w = 0; w < 10; w++) {
                    if ((bits >> w & 1) != 0) {
                        groups.merge(withWits(n, w, y).harvest[v], 1, Integer::sum);
                    }
                }
                int left = groups.values().stream().max(Integer::compare).get();
                if (best == null || left < best[2]) {
                    best = new int[] {y, v, left};
                }
            }
        }
        return best == null ? NONE : best[what];
    }

    private void act() {
        acts.addLast(now.copy());
        if (acts.size() > 20) {
            acts.removeFirst();
        }
    }

    boolean teach(int n, int w) {
        if (!isPerson(n) || w < 0 || w > 9 || now.people.get(n).wits == w) {
            no(2);
            return false;
        }
        act();
        now.people.get(n).wits = w;
        return true;
    }

    int bring(int n) {
        if (!isPerson(n)) {
            return no(2);
        }
        act();
        Person p = now.people.get(n);
        p.isAway = !p.isAway;
        p.away = 0;
        return p.lives();
    }

    boolean calm(int v) {
        if (!isVillage(v) || now.quarrel[v] == 0) {
            no(2);
            return false;
        }
        act();
        now.quarrel[v] = 0;
        return true;
    }

    int years(int n) {
        if (law == null || n < 1 || n > 100 || now.year + n > 999) {
            return no(3);
        }
        act();
        int count = 0;
        for (int i = 0; i < n; i++) {
            count += year(now, 0, 0, 0) ? 1 : 0;
        }
        return count;
    }

    int chance(int n) {
        if (law == null || n < 1 || n > 100 || now.year + n > 999) {
            return no(3);
        }
        act();
        int count = 0;
        for (int i = 0; i < n; i++) {
            x = (1103515245L * x + 12345) % (1L << 31);
            boolean snow = x / 64 % 100 < law.snow;
            year(now, snow ? 2 : 0, 0, 0);
            count += snow ? 1 : 0;
        }
        return count;
    }

    boolean undo() {
        if (acts.isEmpty()) {
            no(4);
            return false;
        }
        now = acts.removeLast();
        return true;
    }

    boolean seed(int seed) {
        if (seed < 0) {
            no(5);
            return false;
        }
        x = seed;
        return true;
    }

    long ask() {
        String t = takeTape();
        if (law == null) {
            return NOTHING;
        }
        try {
            long answer = answer(new Text(t));
            faultKind = 0;
            faultPlace = NONE;
            return answer;
        } catch (Fault f) {
            faultKind = f.kind;
            faultPlace = f.place;
            return NOTHING;
        }
    }

    private long answer(Text text) {
        String verb = text.peek();
        if (!Set.of("first", "last", "often", "total", "most", "least").contains(verb)) {
            throw text.bad();
        }
        text.must(verb);
        text.where = "question";
        boolean test = Set.of("first", "last", "often").contains(verb);
        Expr e = test ? text.test(new ArrayDeque<>()) : text.sum(new ArrayDeque<>());
        text.blanks();
        if (text.at < text.t.length()) {
            throw text.bad();
        }
        long[] values = now.people.stream().mapToLong(p -> e.at(p, 0, now)).toArray();
        switch (verb) {
            case "first":
                for (int i = 0; i < values.length; i++) {
                    if (values[i] != 0) {
                        return i;
                    }
                }
                return NONE;
            case "last":
                for (int i = values.length - 1; i >= 0; i--) {
                    if (values[i] != 0) {
                        return i;
                    }
                }
                return NONE;
            case "most": return Arrays.stream(values).max().orElse(0);
            case "least": return Arrays.stream(values).min().orElse(0);
            default: return Arrays.stream(values).sum();
        }
    }

    private static int check(List<Integer> row) {
        int c = 199;
        for (int b : row) {
            c = (3 * c + b) % 251;
        }
        return c;
    }

    int image() {
        List<Integer> row = new ArrayList<>(List.of(now.year / 256, now.year % 256));
        for (int v = 0; v < 2 && law != null; v++) {
            row.addAll(List.of(now.harvest[v] / 256, now.harvest[v] % 256, now.quarrel[v]));
        }
        for (Person p : now.people) {
            row.addAll(List.of(p.wits, p.isAway ? 1 : 0, p.away));
        }
        row.add(check(row));
        picture = row.stream().mapToInt(i -> i).toArray();
        return picture.length;
    }

    int octet(int k) {
        return k < 0 || k >= picture.length ? NONE : picture[k];
    }

    boolean on() {
        String t = takeTape();
        State s = law == null ? null : developed(t);
        if (s == null) {
            no(5);
            return false;
        }
        now = s;
        acts.clear();
        return true;
    }

    private State developed(String t) {
        State s = now.copy();
        s.kept.clear();
        if (t.length() != 9 + 3 * s.people.size()) {
            return null;
        }
        List<Integer> row = new ArrayList<>();
        for (char c : t.substring(0, t.length() - 1).toCharArray()) {
            row.add((int) c);
        }
        boolean good = check(row) == t.charAt(t.length() - 1);
        s.year = row.get(0) * 256 + row.get(1);
        good = good && s.year <= 999;
        int at = 2;
        for (int v = 0; v < 2; v++) {
            s.harvest[v] = row.get(at) * 256 + row.get(at + 1);
            s.quarrel[v] = row.get(at + 2);
            good = good && s.harvest[v] <= 999 && s.quarrel[v] <= 99;
            at += 3;
        }
        for (Person p : s.people) {
            p.wits = row.get(at);
            p.isAway = row.get(at + 1) == 1;
            p.away = row.get(at + 2);
            good = good && p.wits <= 9 && row.get(at + 1) <= 1 && p.away <= 99 && (p.isAway || p.away == 0);
            at += 3;
        }
        return good ? s : null;
    }

    int status(int what) {
        return what < 0 || what > 5 ? NONE : refused[what];
    }
}
