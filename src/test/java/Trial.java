import java.nio.charset.StandardCharsets;

/** What the tests share: a count of wrong answers, and texts fed to an object. */
final class Trial {
    private int calls;
    private int wrong;
    private int sentences;
    private String sentence = "";
    private int callsAhead;

    /** What comes from here on tests this sentence of the document; one without a call is wrong. */
    void about(String words) {
        closeSentence();
        sentence = words;
        sentences++;
        callsAhead = calls;
    }

    private void closeSentence() {
        if (sentences > 0 && calls == callsAhead) {
            wrong++;
            System.out.println("no call tests the sentence: " + sentence);
        }
    }

    void due(String call, long got, long want) {
        calls++;
        if (got != want) {
            wrong++;
            System.out.println((sentence.isEmpty() ? "" : "[" + sentence + "] ") + call + " answered " + got + ", due is " + want);
        }
    }

    void due(String call, String got, String want) {
        calls++;
        if (!got.equals(want)) {
            wrong++;
            System.out.println("[" + sentence + "] " + call + " left\n  " + got + "\ndue is\n  " + want);
        }
    }

    void due(String call, boolean got, boolean want) {
        due(call, got ? 1L : 0L, want ? 1L : 0L);
    }

    void end(String name) {
        closeSentence();
        System.out.println(name + ": " + calls + " answers" + (sentences > 0 ? " to " + sentences + " sentences" : "") + ", " + wrong + " wrong");
        if (wrong != 0 || calls == 0) {
            System.exit(1);
        }
    }

    static byte[] bytes(String text) {
        return text.getBytes(StandardCharsets.ISO_8859_1);
    }

    /** The tape becomes these bytes alone. */
    static void feed(FoolTrade trade, byte[] bytes) {
        trade.end(0);
        for (int at = 0; at < bytes.length; at += 20) {
            trade.feed(word(bytes, at), word(bytes, at + 4), word(bytes, at + 8), word(bytes, at + 12), word(bytes, at + 16));
        }
        trade.end(bytes.length);
    }

    static int word(byte[] bytes, int at) {
        int word = 0;
        for (int i = at; i < at + 4; i++) {
            word = word << 8 | (i < bytes.length ? bytes[i] & 255 : 0);
        }
        return word;
    }

    static int treaty(FoolTrade trade, String text) {
        feed(trade, bytes(text));
        return trade.treaty();
    }

    static FoolTrade by(String text) {
        FoolTrade trade = new FoolTrade();
        treaty(trade, text);
        return trade;
    }

    static long ask(FoolTrade trade, String text) {
        feed(trade, bytes(text));
        return trade.ask();
    }

    static byte[] octets(int... numbers) {
        byte[] bytes = new byte[numbers.length];
        for (int i = 0; i < numbers.length; i++) {
            bytes[i] = (byte) numbers[i];
        }
        return bytes;
    }

    static int see(FoolTrade trade, int... numbers) {
        feed(trade, octets(numbers));
        return trade.see();
    }

    static boolean on(FoolTrade trade, int... numbers) {
        feed(trade, octets(numbers));
        return trade.on();
    }

    static int[] imageOf(FoolTrade trade) {
        int[] row = new int[trade.image()];
        for (int k = 0; k < row.length; k++) {
            row[k] = trade.octet(k);
        }
        return row;
    }

    /** The row with the last byte that an image of it has. */
    static int[] checked(int... row) {
        int c = 199;
        for (int k = 0; k < row.length - 1; k++) {
            c = (3 * c + row[k]) % 251;
        }
        row[row.length - 1] = c;
        return row;
    }

    /** An object of the treaty put to a year by an image, all else as at first. */
    static FoolTrade inYear(String text, int year) {
        FoolTrade trade = by(text);
        int[] row = imageOf(trade);
        row[0] = year >> 8;
        row[1] = year & 255;
        if (!on(trade, checked(row)) || trade.has(2) != year) {
            throw new IllegalStateException("no image of year " + year + " by " + text);
        }
        return trade;
    }

    /** A treaty with a fault; a mark ^ stands ahead of the place that is due. */
    void treatyFault(int kind, String marked) {
        String text = marked.replace("^", "");
        FoolTrade t = new FoolTrade();
        due("treaty() of " + text, treaty(t, text), FoolTrade.NONE);
        due("fault(0) of " + text, t.fault(0), kind);
        due("fault(1) of " + text, t.fault(1), marked.indexOf('^'));
        due("status(1) of " + text, t.status(1), 1);
    }

    FoolTrade wholeTreaty(int statements, String text) {
        FoolTrade t = new FoolTrade();
        due("treaty() of " + text, treaty(t, text), statements);
        due("fault(0) of " + text, t.fault(0), 0);
        due("fault(1) of " + text, t.fault(1), FoolTrade.NONE);
        due("status(1) of " + text, t.status(1), 0);
        return t;
    }

    /** A question with a fault; a mark ^ stands ahead of the place that is due. */
    void questionFault(int kind, FoolTrade t, String marked) {
        String text = marked.replace("^", "");
        due("ask() " + text, ask(t, text), FoolTrade.NOTHING);
        due("fault(0) of " + text, t.fault(0), kind);
        due("fault(1) of " + text, t.fault(1), marked.indexOf('^'));
        due("status(1) of " + text, t.status(1), 0);
    }

    void wholeQuestion(FoolTrade t, String text, long want) {
        due("ask() " + text, ask(t, text), want);
        due("fault(0) of " + text, t.fault(0), 0);
        due("fault(1) of " + text, t.fault(1), FoolTrade.NONE);
    }
}
