import java.util.Arrays;
import java.util.List;

/** The edges of texts, sentence by sentence: section I (treaties), IV (questions), promises 4, 5 and 31. */
public final class TextEdgesTest {
    private static final int NONE = FoolTrade.NONE;
    private static final String LAND = "village a harvest 1 quarrel 1;village b harvest 1 quarrel 1;";
    private static final String TRAITS = " of a wits 1 oath 1 cheer 1;";
    private static final List<String> OWN_WORDS = Arrays.asList("harvest", "quarrel", "village", "person", "of", "wits", "oath", "cheer", "sends", "goose", "does",
        "fights", "stays", "snow", "year", "away", "guests", "number", "lives", "home", "or", "and", "not", "all", "min", "max");
    private static final List<String> VERBS = Arrays.asList("first", "last", "often", "total", "most", "least");
    private static final Trial TRIAL = new Trial();

    public static void main(String[] args) {
        statements();
        villages();
        people();
        oneEach();
        snow();
        numbers();
        partsOfRules();
        names();
        blanks();
        textFaults();
        firstFault();
        openOnes();
        tooMany();
        questions();
        questionParts();
        questionOpenOnes();
        whichFault();
        TRIAL.end("TextEdgesTest");
    }

    private static void fault(int kind, String marked) {
        TRIAL.treatyFault(kind, marked);
    }

    private static FoolTrade whole(int statements, String text) {
        return TRIAL.wholeTreaty(statements, text);
    }

    private static String people(int count) {
        StringBuilder b = new StringBuilder();
        for (int i = 0; i < count; i++) {
            b.append("person p").append((char) ('a' + i)).append(TRAITS);
        }
        return b.toString();
    }

    private static void statements() {
        TRIAL.about("I: { STATEMENT ; } (80 at most)");
        whole(2, LAND);
        whole(79, LAND + "snow 1;".repeat(77));
        whole(80, LAND + "snow 1;".repeat(78));
        whole(80, LAND + "snow 1;".repeat(78) + " \n ");
        fault(5, LAND + "snow 1;".repeat(78) + "^snow 1;");
        fault(1, LAND.substring(0, LAND.length() - 1) + "^");
        fault(1, LAND + "^;");
        TRIAL.about("treaty: one without a STATEMENT has FAULT 1 at its length");
        fault(1, "^");
        fault(1, " ^");
        fault(1, "\n\n^");
        fault(1, " ".repeat(1600) + "^");
        TRIAL.about("treaty: how many STATEMENTS");
        whole(3, LAND + "snow 1;");
        whole(10, LAND + people(8));
        TRIAL.due("a treaty of 1600 bytes", whole(2, " ".repeat(1600 - LAND.length()) + LAND).has(0), 2);
        TRIAL.about("treaty: the longest SUMS, one treaty behind another");
        String head = LAND + people(1) + "does 1";
        String longest = head + "+1".repeat((1599 - head.length()) / 2) + ";";
        FoolTrade t = new FoolTrade();
        for (int i = 0; i < 5; i++) {
            TRIAL.due("treaty() " + i + " of " + longest.length() + " bytes", Trial.treaty(t, longest), 4);
            TRIAL.due("does(0, 0) " + i, t.does(0, 0), 1 + (1599 - head.length()) / 2);
            TRIAL.due("the default goose", t.person(0, 6), 1);
        }
    }

    private static void villages() {
        TRIAL.about("I: two STATEMENTS village (the first ones, and these alone)");
        String one = "village a harvest 1 quarrel 1;";
        fault(1, one + "^");
        fault(1, LAND + "^village c harvest 1 quarrel 1;");
        fault(1, LAND + "snow 1;^village c harvest 1 quarrel 1;");
        for (String other : new String[] {"person p of a wits 1 oath 1 cheer 1;", "sends 1;", "goose all;", "does 1;", "fights 1;", "stays all;", "snow 1;"}) {
            fault(1, "^" + other + LAND);
            fault(1, one + "^" + other + "village b harvest 1 quarrel 1;");
        }
        TRIAL.about("I: harvest 0 .. 999, quarrel 0 .. 99");
        String[] texts = {"village a harvest ? quarrel 1;village b harvest 1 quarrel 1;", "village a harvest 1 quarrel 1;village b harvest ? quarrel 1;"};
        for (int v = 0; v < 2; v++) {
            for (int n : new int[] {0, 1, 998, 999}) {
                TRIAL.due("harvest " + n, whole(2, texts[v].replace("?", "" + n)).village(v, 0), n);
            }
            TRIAL.due("harvest 0999", whole(2, texts[v].replace("?", "0999")).village(v, 0), 999);
            fault(2, texts[v].replace("?", "^1000"));
            fault(2, texts[v].replace("?", "^9999"));
            fault(1, texts[v].replace("?", "1000^0"));
            fault(1, texts[v].replace("?", "0000^0"));
            fault(1, texts[v].replace("?", "^-1"));
            String quarrel = texts[v].replace("harvest ? quarrel 1", "harvest 1 quarrel ?");
            for (int n : new int[] {0, 1, 98, 99}) {
                TRIAL.due("quarrel " + n, whole(2, quarrel.replace("?", "" + n)).village(v, 1), n);
            }
            TRIAL.due("quarrel 0099", whole(2, quarrel.replace("?", "0099")).village(v, 1), 99);
            fault(2, quarrel.replace("?", "^100"));
            fault(2, quarrel.replace("?", "^9999"));
            fault(1, quarrel.replace("?", "0009^9"));
            fault(1, quarrel.replace("?", "^-1"));
        }
        TRIAL.about("I: VILLAGES 0 and 1");
        FoolTrade t = whole(2, "village zed harvest 7 quarrel 8;village y harvest 9 quarrel 10;");
        TRIAL.due("letter(0, 0, 0)", t.letter(0, 0, 0), 26);
        TRIAL.due("letter(0, 1, 0)", t.letter(0, 1, 0), 25);
        TRIAL.due("village(0, 0)", t.village(0, 0), 7);
        TRIAL.due("village(1, 1)", t.village(1, 1), 10);
    }

    private static void people() {
        TRIAL.about("I: wits, oath, cheer 0 .. 9 each");
        String[] traits = {"wits ? oath 1 cheer 1;", "wits 1 oath ? cheer 1;", "wits 1 oath 1 cheer ?;"};
        for (int i = 0; i < 3; i++) {
            String text = LAND + "person p of b " + traits[i];
            for (int n : new int[] {0, 1, 8, 9}) {
                TRIAL.due(traits[i] + n, whole(3, text.replace("?", "" + n)).person(0, 2 + i), n);
            }
            TRIAL.due(traits[i] + "0009", whole(3, text.replace("?", "0009")).person(0, 2 + i), 9);
            fault(2, text.replace("?", "^10"));
            fault(2, text.replace("?", "^0010"));
            fault(2, text.replace("?", "^9999"));
            fault(1, text.replace("?", "0000^9"));
            fault(1, text.replace("?", "^-1"));
            fault(1, text.replace("?", "^x"));
            fault(1, text.replace(" ?", "^?"));
        }
        TRIAL.about("I: person NAME of NAME (a VILLAGE)");
        TRIAL.due("of the first", whole(3, LAND + "person p of a wits 1 oath 1 cheer 1;").person(0, 0), 0);
        TRIAL.due("of the second", whole(3, LAND + "person p of b wits 1 oath 1 cheer 1;").person(0, 0), 1);
        fault(3, LAND + "person p of ^p wits 1 oath 1 cheer 1;");
        fault(3, LAND + people(1) + "person p of ^pa wits 1 oath 1 cheer 1;");
        fault(3, LAND + "person p of ^c wits 1 oath 1 cheer 1;");
        TRIAL.about("I: 8 PEOPLE");
        TRIAL.due("none", whole(2, LAND).has(1), 0);
        TRIAL.due("one", whole(3, LAND + people(1)).has(1), 1);
        TRIAL.due("seven", whole(9, LAND + people(7)).has(1), 7);
        TRIAL.due("eight", whole(10, LAND + people(8)).has(1), 8);
        TRIAL.due("eight and more statements", whole(12, LAND + people(8) + "snow 1;snow 2;").has(1), 8);
        fault(5, LAND + people(8) + "^person p" + TRAITS);
        fault(5, LAND + people(8) + "snow 1;^person");
        fault(1, LAND + people(8) + "^persona");
    }

    private static void oneEach() {
        TRIAL.about("I: sends SUM, goose TEST, does SUM, fights SUM, stays TEST (one each)");
        String[] rules = {"sends 1;", "goose all;", "does 1;", "fights 1;", "stays all;"};
        whole(7, LAND + String.join("", rules));
        for (String rule : rules) {
            whole(3, LAND + rule);
            fault(5, LAND + rule + "^" + rule);
            fault(5, LAND + rule + people(1) + "snow 1;^" + rule.substring(0, rule.indexOf(' ')));
            for (String other : rules) {
                if (!other.equals(rule)) {
                    whole(4, LAND + rule + other);
                }
            }
        }
    }

    private static void snow() {
        TRIAL.about("I: snow N (0 .. 100)");
        whole(3, LAND + "snow 0;");
        whole(3, LAND + "snow 100;");
        whole(3, LAND + "snow 0100;");
        fault(2, LAND + "snow ^101;");
        fault(2, LAND + "snow ^9999;");
        fault(1, LAND + "snow 0010^0;");
        fault(1, LAND + "snow ^-1;");
        fault(1, LAND + "snow ^;");
        TRIAL.about("I: snow, the last one counts, 0 without");
        TRIAL.due("without", whole(2, LAND).chance(100), 0);
        TRIAL.due("without, by the draw 0", bySeed42(LAND), 0);
        TRIAL.due("0, by the draw 0", bySeed42(LAND + "snow 0;"), 0);
        TRIAL.due("1, by the draw 0", bySeed42(LAND + "snow 1;"), 1);
        TRIAL.due("0", whole(3, LAND + "snow 0;").chance(100), 0);
        TRIAL.due("100", whole(3, LAND + "snow 100;").chance(100), 100);
        TRIAL.due("100, then 0", whole(4, LAND + "snow 100;snow 0;").chance(100), 0);
        TRIAL.due("0, 50, then 100", whole(5, LAND + "snow 0;snow 50;snow 100;").chance(100), 100);
        FoolTrade t = whole(3, LAND + "snow 100;");
        Trial.treaty(t, LAND);
        TRIAL.due("not that of the treaty ahead", t.chance(100), 0);
    }

    /** By the seed 42 x is 1250496027, by 64 that is 19539000: the draw is 0. */
    private static int bySeed42(String text) {
        FoolTrade t = Trial.by(text);
        t.seed(42);
        return t.chance(1);
    }

    private static void numbers() {
        TRIAL.about("I: PART: N (1 to 4 digits)");
        FoolTrade t = Trial.by(LAND + people(1));
        Object[] good = {"0", 0L, "9", 9L, "10", 10L, "999", 999L, "1000", 1000L, "9999", 9999L, "0000", 0L, "0001", 1L};
        for (int i = 0; i < good.length; i += 2) {
            TRIAL.wholeQuestion(t, "total " + good[i], (Long) good[i + 1]);
            TRIAL.due("does", whole(4, LAND + people(1) + "does " + good[i] + ";").does(0, 0), (Long) good[i + 1]);
        }
        for (String bad : new String[] {"1000^0", "0000^0", "9999^99999999", "1234^5a"}) {
            TRIAL.questionFault(1, t, "total " + bad);
            fault(1, LAND + "does " + bad + ";");
            fault(1, LAND + "goose 1<" + bad + ";");
            fault(1, LAND + "fights 1+(" + bad + ");");
        }
        fault(1, LAND + "does 1 ^12345;");
        fault(1, LAND + "does wits ^12345;");
        fault(1, LAND + "^12345");
    }

    private static void partsOfRules() {
        TRIAL.about("I: PART: harvest; quarrel; year; but in fights: wits; oath; cheer; away; in fights: guests");
        List<String> all = Arrays.asList("harvest", "quarrel", "year");
        List<String> ofPerson = Arrays.asList("wits", "oath", "cheer", "away");
        for (String rule : new String[] {"sends ?;", "does ?;", "fights ?;", "goose ?=1;", "stays 1>?;"}) {
            boolean fights = rule.startsWith("fights");
            for (String word : OWN_WORDS) {
                if (all.contains(word) || (fights ? word.equals("guests") : ofPerson.contains(word))) {
                    whole(3, LAND + rule.replace("?", word));
                    whole(3, LAND + rule.replace("?", "1-(" + word + ")"));
                } else if (!(word.equals("min") || word.equals("max") || startsFact(rule, word))) {
                    fault(1, LAND + rule.replace("?", "^" + word));
                    fault(1, LAND + rule.replace("?", "1*^" + word));
                }
            }
            for (String word : new String[] {"first", "a", "b", "wit", "witss", "x"}) {
                fault(1, LAND + rule.replace("?", "^" + word));
            }
        }
        TRIAL.about("I: min ( SUM , SUM ), max ( SUM , SUM )");
        for (String word : new String[] {"min", "max"}) {
            whole(3, LAND + "sends " + word + "\n( 1 ,2 ) ;");
            fault(1, LAND + "sends " + word + "^;");
            fault(1, LAND + "sends " + word + "(^)");
            fault(1, LAND + "sends " + word + "(1^)");
            fault(1, LAND + "sends " + word + "(1,^)");
            fault(1, LAND + "sends " + word + "(1,2^;");
            fault(1, LAND + "sends " + word + "(1,2^,3)");
            fault(1, LAND + "sends " + word + " ^[1,2]");
        }
        TRIAL.about("I: SIGN < or > or =");
        for (String sign : new String[] {"<", ">", "="}) {
            whole(3, LAND + "goose 1" + sign + "2;");
            fault(1, LAND + "goose 1" + sign + "^" + sign + "2;");
            fault(1, LAND + "goose ^" + sign + "2;");
            fault(1, LAND + "goose 1" + sign + "^;");
            fault(1, LAND + "goose 1" + sign + "2^" + sign + "3;");
        }
        fault(1, LAND + "goose 1^!=2;");
    }

    private static boolean startsFact(String rule, String word) {
        return rule.startsWith("goose") && (word.equals("not") || word.equals("all"));
    }

    private static void names() {
        TRIAL.about("I: NAMES: 1 to 6 letters; a 7th letter at itself");
        String rest = " harvest 1 quarrel 1;village b harvest 1 quarrel 1;";
        for (int n = 1; n <= 6; n++) {
            String name = "zyxwvu".substring(0, n);
            FoolTrade t = whole(3, "village " + name + rest + "person q" + name.substring(1) + " of " + name + " wits 1 oath 1 cheer 1;");
            for (int k = 0; k < 6; k++) {
                TRIAL.due("letter(0, 0, " + k + ") of " + name, t.letter(0, 0, k), k < n ? 26 - k : 0);
                TRIAL.due("letter(1, 0, " + k + ") of q" + name.substring(1), t.letter(1, 0, k), k == 0 ? 17 : k < n ? 26 - k : 0);
            }
        }
        fault(1, "village ^;");
        fault(1, "village zyxwvu^t" + rest);
        fault(1, "village zyxwvu^tsrqponmlk" + rest);
        fault(1, LAND + "person zyxwvu^t of a wits 1 oath 1 cheer 1;");
        fault(1, LAND + "person p of zyxwvu^t wits 1 oath 1 cheer 1;");
        TRIAL.about("I: NAMES: no OWN WORD; where a NAME is asked, an OWN WORD so (at its first byte)");
        for (String word : OWN_WORDS) {
            fault(1, "village ^" + word + rest);
            fault(1, "village a harvest 1 quarrel 1;village ^" + word + " harvest 1 quarrel 1;");
            fault(1, LAND + "person ^" + word + " of a wits 1 oath 1 cheer 1;");
            fault(1, LAND + "person p of ^" + word + " wits 1 oath 1 cheer 1;");
            String shorter = word.substring(0, word.length() - 1);
            if (!OWN_WORDS.contains(shorter)) {
                whole(2, "village " + shorter + " harvest 1 quarrel 1;village zz harvest 1 quarrel 1;");
            }
            if (word.length() < 6) {
                whole(2, "village " + word + "x" + rest);
            } else {
                fault(1, "village " + (word + "x").substring(0, 6) + "^" + (word + "x").substring(6) + rest);
            }
        }
        for (String word : VERBS) {
            whole(3, "village " + word + rest + "person p of " + word + " wits 1 oath 1 cheer 1;");
            whole(3, LAND + "person " + word + " of a wits 1 oath 1 cheer 1;");
        }
        TRIAL.about("I: NAMES: unlike ones (of all sorts); FAULT 3 a NAME to be given that is there already, at it");
        fault(3, "village ab harvest 1 quarrel 1;village ^ab harvest 1 quarrel 1;");
        whole(2, "village ab harvest 1 quarrel 1;village abc harvest 1 quarrel 1;");
        whole(2, "village ab harvest 1 quarrel 1;village a harvest 1 quarrel 1;");
        whole(2, "village abcdef harvest 1 quarrel 1;village abcdeg harvest 1 quarrel 1;");
        fault(3, LAND + "person ^a" + TRAITS);
        fault(3, LAND + "person ^b" + TRAITS);
        for (int i = 0; i < 7; i++) {
            fault(3, LAND + people(7) + "person ^p" + (char) ('a' + i) + TRAITS);
        }
        whole(10, LAND + people(7) + "person p" + TRAITS);
        TRIAL.about("I: NAMES: told ahead of where they are asked");
        fault(3, "village a harvest 1 quarrel 1;village ^a");
        fault(3, LAND + "person p of ^q wits 1 oath 1 cheer 1;person q of a wits 1 oath 1 cheer 1;");
        FoolTrade t = Trial.by(LAND + people(1));
        TRIAL.due("names of a treaty ahead are free again", Trial.treaty(t, LAND + people(1)), 3);
    }

    private static void blanks() {
        TRIAL.about("I: Blanks (10, 32) are where one likes");
        String text = "village a harvest 1 quarrel 1 ; village b harvest 1 quarrel 1 ; person p of b wits 1 oath 1 cheer 1 ; "
            + "sends min ( 1 , wits ) * 2 ; goose not [ wits < 5 or all ] ; snow 5 ; ";
        whole(6, text);
        whole(6, text.replace(' ', '\n'));
        whole(6, text.replace(" ", " \n  \n"));
        whole(6, " \n" + text);
        whole(6, text.replace(" ;", ";").replace("; ", ";").replace(" ( ", "(").replace(" , ", ",").replace(" ) ", ")").replace(" * ", "*").replace(" [ ", "[")
            .replace(" ]", "]").replace(" < ", "<"));
        for (int c = 0; c < 256; c++) {
            if (c != 10 && c != 32 && c != '^') {
                fault(1, "village a ^" + (char) c + " harvest 1 quarrel 1;village b harvest 1 quarrel 1;");
                if (c < 'a' || c > 'z') {
                    fault(1, "village a^" + (char) c + " harvest 1 quarrel 1;village b harvest 1 quarrel 1;");
                }
            }
        }
        TRIAL.about("I: words and numbers side by side need one (a blank)");
        fault(1, "village a harvest^1 quarrel 1;");
        fault(1, "village a harvest 1^quarrel 1;");
        fault(1, "^villagea harvest 1 quarrel 1;");
        fault(1, LAND + "snow^1;");
        fault(1, LAND + "sends^1;");
        fault(1, LAND + "sends 1^wits;");
        fault(1, LAND + "goose wits<5^or all;");
        fault(1, LAND + "goose wits^5;");
        fault(1, LAND + "goose all or^1<2;");
        fault(1, LAND + "goose not^1<2;");
        whole(3, LAND + "goose not(1)<2 or all;");
        whole(3, LAND + "goose[all]or[all]and not[all];");
        whole(3, LAND + "sends(1)*min(1,2)-wits;");
    }

    private static void textFaults() {
        TRIAL.about("I: FAULT 1 (at the text's length, if it ends too soon; words whole, at their first byte)");
        String text = "village a harvest 12 quarrel 3;village b harvest 4 quarrel 5;person p of b wits 6 oath 7 cheer 8;"
            + "sends (9-wits)*min(oath,2);goose not [wits<5 or cheer>3] and all;fights guests/2;snow 5;";
        for (int cut = 0; cut < text.length(); cut++) {
            cutAt(text, cut);
        }
        for (int cut = 0; cut < text.length(); cut++) {
            if (text.charAt(cut) == ' ' && text.charAt(cut - 1) != ';') {
                TRIAL.due("with a blank behind, cut at " + cut, Trial.treaty(new FoolTrade(), text.substring(0, cut) + " "), NONE);
            }
        }
        TRIAL.about("I: FAULT 1 (where a number is asked, a 5th digit at itself)");
        fault(1, "village a harvest 0001^2 quarrel 1;");
        fault(1, "village a harvest 1 quarrel 9999^9");
        fault(1, "village a harvest 1 ^12345");
    }

    /** The text ends too soon, but where it ends as a whole treaty; a word that is cut is none. */
    private static void cutAt(String text, int cut) {
        String head = text.substring(0, cut);
        int start = cut;
        while (start > 0 && Character.isLetter(head.charAt(start - 1))) {
            start--;
        }
        String word = head.substring(start);
        long villages = head.chars().filter(c -> c == ';').count();
        if (head.endsWith(";") && villages >= 2) {
            whole((int) villages, head);
        } else if (word.isEmpty() || OWN_WORDS.contains(word) || word.equals("a") && start == 8 || word.equals("b") || word.equals("p") && head.endsWith("person p")) {
            fault(1, head + "^");
        } else {
            fault(1, head.substring(0, start) + "^" + word);
        }
    }

    private static void firstFault() {
        TRIAL.about("I: FAULTS, the first along the text");
        fault(2, "village a harvest ^1000 quarrel 100;");
        fault(2, "village a harvest ^1000quarrel 1;");
        fault(2, "village a harvest ^1000");
        fault(2, "village a harvest ^1000 x");
        fault(1, "village a ^x harvest 1000");
        fault(3, LAND + "person ^a of c wits 10 oath 1 cheer 1;");
        fault(3, LAND + "person p of ^c wits 10 oath 1 cheer 1;");
        fault(2, LAND + "person p of a wits ^10 oath 10 cheer 1;");
        fault(5, LAND + "sends 1;^sends (((((((");
        fault(4, LAND + "sends ((((((^(1;sends 2;");
        fault(1, LAND + "sends ((((((^)");
        fault(5, LAND + people(8) + "^person a of c wits 10");
        fault(5, LAND + "snow 1;".repeat(78) + "^snow 101;");
        fault(2, LAND + "snow 1;".repeat(77) + "snow ^101;snow 1;");
        fault(1, LAND + "snow 1;".repeat(77) + "snow 1^");
    }

    private static void openOnes() {
        TRIAL.about("I: FAULT 4 the 7th of ( [ not that is open at once, at it");
        for (int tests = 0; tests <= 7; tests++) {
            for (int which = 0; which < 1 << tests; which++) {
                StringBuilder head = new StringBuilder();
                StringBuilder tail = new StringBuilder();
                int seventh = 0;
                for (int i = 0; i < 7; i++) {
                    seventh = i == 6 ? head.length() : seventh;
                    boolean not = i < tests && (which >> i & 1) != 0;
                    head.append(not ? "not " : i < tests ? "[" : "(");
                    tail.insert(0, not ? "" : i < tests ? "]" : i == tests ? ")=1" : ")");
                }
                String inside = tests == 7 ? "all" : "1";
                String text = head + inside + tail;
                fault(4, LAND + "goose " + text.substring(0, seventh) + "^" + text.substring(seventh) + ";");
                if (which % 5 == 0) {
                    fault(4, LAND + "stays 1<2 or " + text.substring(0, seventh) + "^" + text.substring(seventh));
                }
            }
        }
        for (String six : new String[] {"[[[[[[all]]]]]]", "not not not not not not all", "((((((1))))))=1", "1=((((((1))))))", "[not [not [not all]]]", "[[[(((1)))=1]]]",
            "not not not not not (1)=1", "not [min(max((min(1,2)),3),4)<9]"}) {
            whole(3, LAND + "goose " + six + ";");
        }
        fault(4, LAND + "sends min((((((max^(1,2))))))),3);");
        fault(4, LAND + "sends 1-(2-(3-(4-(5-(6-(7-^(8)))))));");
        TRIAL.about("I: FAULT 4 open at once (not until its FACT ends)");
        whole(3, LAND + "goose not not not not not not all and not not not not not not all or not not not not not not all;");
        whole(3, LAND + "goose not not not not not not 1<2 and ((((((1))))))=1;");
        whole(3, LAND + "goose [[[[[[all]]]]]] and [[[[[[all]]]]]];");
        whole(3, LAND + "sends ((((((1))))))+((((((1))))))*min((((((1))))),(((((2))))));");
        fault(4, LAND + "goose not not not not not not 1<^(2);");
        fault(4, LAND + "goose not not not not not not 1+1<2*^(2);");
        fault(4, LAND + "goose [not not not not not 1<2 and not not not not not ^not all];");
        fault(4, LAND + "goose not [not not not not 1<2 and not not not not ^(1)<2];");
        whole(3, LAND + "goose not [not not not not 1<2 and not not not not all and [[[[all]]]]];");
    }

    private static void tooMany() {
        TRIAL.about("I: FAULT 5 an 81st STATEMENT (whatever stands there), at its first byte");
        String eighty = LAND + "snow 1;".repeat(78);
        for (String there : new String[] {"snow 1;", "x", "7", "12345", ";", "?", "(", "village", "person", "\u0000", "\u00ff", "abcdefgh", "sends 1;"}) {
            fault(5, eighty + "^" + there);
            fault(5, eighty + "\n ^" + there);
        }
        whole(80, eighty + "\n\n  ");
    }

    private static void questions() {
        TRIAL.about("IV: first TEST, last TEST, often TEST, total SUM, most SUM, least SUM");
        FoolTrade t = Trial.by(LAND + people(3));
        for (String verb : VERBS) {
            boolean test = VERBS.indexOf(verb) < 3;
            TRIAL.wholeQuestion(t, verb + (test ? " all" : " 1"), test ? (verb.equals("first") ? 0 : verb.equals("last") ? 2 : 3) : verb.equals("total") ? 3 : 1);
            TRIAL.questionFault(1, t, verb + "^");
            TRIAL.questionFault(1, t, verb + " ^");
            TRIAL.questionFault(1, t, verb + (test ? " 1^" : " ^all"));
            TRIAL.questionFault(1, t, "^" + verb.substring(1) + " 1");
            TRIAL.questionFault(1, t, "^" + verb + "s 1");
        }
        for (String word : OWN_WORDS) {
            TRIAL.questionFault(1, Trial.by(LAND), "^" + word + " all");
        }
        TRIAL.questionFault(1, t, "^");
        TRIAL.questionFault(1, t, "\n ^");
        TRIAL.about("IV: FAULT 1 (what stands behind it, too)");
        for (int c = 0; c < 256; c++) {
            boolean goesOn = c == 10 || c == 32 || c == '^' || c == '+' || c == '-' || c == '*' || c == '/';
            if (!goesOn) {
                TRIAL.questionFault(1, Trial.by(LAND), "total (1) ^" + (char) c);
            }
        }
        TRIAL.questionFault(1, t, "first all ^first all");
        TRIAL.questionFault(1, t, "total 1 ^;");
        TRIAL.questionFault(1, t, "often all ^5");
        TRIAL.wholeQuestion(t, "total 1 \n ", 3);
        TRIAL.about("IV: FAULT 1 (an unknown word at its first byte)");
        for (String word : new String[] {"x", "pa", "a", "b", "abcdefghijk", "quarrel", "guests", "numbe", "first"}) {
            TRIAL.questionFault(1, t, "total 1+^" + word);
            TRIAL.questionFault(1, t, "often 1<^" + word);
        }
    }

    private static void questionParts() {
        TRIAL.about("IV: PART: N; number; wits; oath; cheer; away; lives; home; year; harvest PART; does PART; ( SUM ); min, max");
        List<String> parts = Arrays.asList("number", "wits", "oath", "cheer", "away", "lives", "home", "year");
        for (String word : OWN_WORDS) {
            FoolTrade t = Trial.by(LAND + people(1));
            if (parts.contains(word)) {
                Trial.ask(t, "total " + word);
                TRIAL.due("fault(0) of total " + word, t.fault(0), 0);
                Trial.ask(t, "often " + word + "=" + word);
                TRIAL.due("fault(0) of often " + word + "=" + word, t.fault(0), 0);
            } else if (word.equals("harvest") || word.equals("does")) {
                TRIAL.questionFault(1, t, "total " + word + "^");
                TRIAL.questionFault(1, t, "total " + word + " ^+1");
                TRIAL.questionFault(1, t, "total " + word + "^1");
                TRIAL.questionFault(1, t, "total " + word + " 1 ^1");
                TRIAL.questionFault(1, t, "total " + word + " 1234^5");
                TRIAL.questionFault(1, t, "often " + word + " ^all");
                Trial.ask(t, "total " + word + "(1)");
                TRIAL.due("fault(0) of total " + word + "(1)", t.fault(0), 0);
            } else if (word.equals("min") || word.equals("max")) {
                TRIAL.questionFault(1, t, "total " + word + "^");
                TRIAL.wholeQuestion(t, "total " + word + "(7,7)", 7);
            } else {
                TRIAL.questionFault(1, t, "total ^" + word);
                TRIAL.questionFault(1, t, "total 1*^" + word);
            }
        }
    }

    private static void questionOpenOnes() {
        TRIAL.about("IV: FAULT 4 the 7th of ( [ not harvest does that is open at once, at it");
        String[] testOpeners = {"[", "not "};
        String[] partOpeners = {"(", "harvest ", "does "};
        int texts = 0;
        for (int tests = 0; tests <= 6; tests++) {
            for (int which = 0; which < 1 << tests; which++) {
                int parts = 7 - tests;
                for (int code = which % 7; code < Math.pow(3, parts); code += 7) {
                    StringBuilder head = new StringBuilder();
                    StringBuilder tail = new StringBuilder();
                    int seventh = 0;
                    int rest = code;
                    StringBuilder closing = new StringBuilder();
                    for (int i = 0; i < 7; i++) {
                        seventh = i == 6 ? head.length() : seventh;
                        if (i < tests) {
                            int opener = which >> i & 1;
                            head.append(testOpeners[opener]);
                            tail.append(opener == 0 ? "]" : "");
                        } else {
                            head.append(partOpeners[rest % 3]);
                            closing.append(rest % 3 == 0 ? ")" : "");
                            rest /= 3;
                        }
                    }
                    String text = head + "0" + closing + "=0" + tail;
                    TRIAL.questionFault(4, Trial.by(LAND), "often " + text.substring(0, seventh) + "^" + text.substring(seventh));
                    texts++;
                }
            }
        }
        TRIAL.due("many texts", texts > 500, true);
        FoolTrade t = Trial.by(LAND + people(1));
        TRIAL.questionFault(4, t, "often not not not not not not ^not all");
        TRIAL.questionFault(4, t, "often [[[[[[^[all]]]]]]]");
        TRIAL.questionFault(4, t, "total max(min(max(min(max(min(1,2),2),2),2),2),(((((^(1))))))");
        TRIAL.about("IV: FAULT 4 (not until its FACT, harvest, does until its PART ends)");
        TRIAL.wholeQuestion(t, "total harvest harvest harvest harvest harvest harvest 0+harvest harvest harvest harvest harvest harvest 0", 2);
        TRIAL.wholeQuestion(t, "total does does does does does does 5*does does does does does does 5", 9);
        TRIAL.wholeQuestion(t, "total harvest (harvest (harvest (0)))+harvest (harvest (harvest (0)))", 2);
        TRIAL.wholeQuestion(t, "often not not not not not harvest 0=1 and harvest harvest harvest harvest harvest harvest 0=1", 0);
        TRIAL.wholeQuestion(t, "often not not not not not not 1=1 and not not not not not not 1=1", 1);
        TRIAL.questionFault(4, t, "often not not not not not harvest 0=harvest ^harvest 0");
        TRIAL.questionFault(4, t, "total harvest does harvest does harvest does ^harvest 0");
        TRIAL.questionFault(4, t, "total (harvest 0+(harvest 0+(harvest 0+(does 0+(does 0+(^does 0))))))");
        TRIAL.questionFault(4, t, "total (harvest 0+(harvest 0+(harvest 0+(does 0+(does 0+(1+^(1)))))))");
    }

    private static void whichFault() {
        TRIAL.about("fault: of the latest treaty() or ask(): its FAULT (0 without, and ahead of any), its place (NONE without)");
        FoolTrade t = new FoolTrade();
        TRIAL.due("ahead of any", View.fault(t), "0 at -1");
        Trial.treaty(t, LAND + "snow 101;");
        TRIAL.due("of treaty()", View.fault(t), "2 at " + (LAND.length() + 5));
        Trial.treaty(t, LAND);
        TRIAL.due("without", View.fault(t), "0 at -1");
        Trial.ask(t, "total x");
        TRIAL.due("of ask()", View.fault(t), "1 at 6");
        Trial.see(t);
        Trial.on(t);
        t.years(0);
        TRIAL.due("other calls leave it", View.fault(t), "1 at 6");
        Trial.ask(t, "total 1");
        TRIAL.due("without", View.fault(t), "0 at -1");
        Trial.treaty(t, "x");
        TRIAL.due("a place 0", View.fault(t), "1 at 0");
        for (int what : new int[] {-1, 2, 3, Integer.MIN_VALUE, Integer.MAX_VALUE}) {
            TRIAL.due("fault(" + what + ")", t.fault(what), NONE);
        }
    }
}
