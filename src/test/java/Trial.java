import java.nio.charset.StandardCharsets;

/** What the tests share: a count of wrong answers, and texts fed to an object. */
final class Trial {
    private int calls;
    private int wrong;

    void due(String call, long got, long want) {
        calls++;
        if (got != want) {
            wrong++;
            System.out.println(call + " answered " + got + ", due is " + want);
        }
    }

    void due(String call, boolean got, boolean want) {
        due(call, got ? 1L : 0L, want ? 1L : 0L);
    }

    void end(String name) {
        System.out.println(name + ": " + calls + " answers, " + wrong + " wrong");
        if (wrong != 0 || calls == 0) {
            System.exit(1);
        }
    }

    static byte[] bytes(String text) {
        return text.getBytes(StandardCharsets.ISO_8859_1);
    }

    /** The tape becomes these bytes alone. */
    static void feed(FoolTrade trade, byte[] bytes) {
        trade.end(0);
        for (int at = 0; at < bytes.length; at += 20) {
            trade.feed(word(bytes, at), word(bytes, at + 4), word(bytes, at + 8), word(bytes, at + 12), word(bytes, at + 16));
        }
        trade.end(bytes.length);
    }

    static int word(byte[] bytes, int at) {
        int word = 0;
        for (int i = at; i < at + 4; i++) {
            word = word << 8 | (i < bytes.length ? bytes[i] & 255 : 0);
        }
        return word;
    }

    static int treaty(FoolTrade trade, String text) {
        feed(trade, bytes(text));
        return trade.treaty();
    }

    static FoolTrade by(String text) {
        FoolTrade trade = new FoolTrade();
        treaty(trade, text);
        return trade;
    }

    static long ask(FoolTrade trade, String text) {
        feed(trade, bytes(text));
        return trade.ask();
    }

    static byte[] octets(int... numbers) {
        byte[] bytes = new byte[numbers.length];
        for (int i = 0; i < numbers.length; i++) {
            bytes[i] = (byte) numbers[i];
        }
        return bytes;
    }

    static int see(FoolTrade trade, int... numbers) {
        feed(trade, octets(numbers));
        return trade.see();
    }

    static boolean on(FoolTrade trade, int... numbers) {
        feed(trade, octets(numbers));
        return trade.on();
    }
}
