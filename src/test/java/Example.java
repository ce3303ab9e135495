/** How FoolTrade is used: README.md shows this file as it stands. */
final class Example {
    public static void main(String[] args) {
        FoolTrade trade = new FoolTrade();
        tell(trade, "village upper harvest 100 quarrel 5; village lower harvest 80 quarrel 9;"
            + "person ann of upper wits 3 oath 2 cheer 6; person bob of upper wits 7 oath 5 cheer 1;"
            + "person cid of lower wits 1 oath 4 cheer 8; person dot of lower wits 9 oath 0 cheer 2;"
            + "does wits*2 + cheer - quarrel; stays cheer > 7; snow 50;");
        System.out.println(trade.treaty());         // 9 statements
        System.out.println(trade.village(0, 4));    // 0 is who would be sent of upper: ann
        System.out.println(trade.later(0, 1, 0));   // 115 is the harvest of upper behind one year
        System.out.println(trade.worth(1, 1));      // 2 is what the treaty brings lower in one year
        System.out.println(trade.feign(1));         // 2 are the wits that bob must feign to be sent
        System.out.println(trade.years(3));         // 1 exchange in three years
        System.out.println(trade.kept(0, 2));       // 2 is who was sent of lower in the first of these: cid

        tell(trade, "first lives = 0 and home = 1");
        System.out.println(trade.ask());            // 2 is the first who lives in upper and is of lower
        tell(trade, "total does lives");
        System.out.println(trade.ask());            // 33 is what all do together where they live

        int length = trade.image();
        StringBuilder image = new StringBuilder();
        for (int k = 0; k < length; k++) {
            image.append((char) trade.octet(k));
        }
        System.out.println(trade.undo());           // true: the three years are undone
        tell(trade, image.toString());
        System.out.println(trade.on());             // true: all is as the image tells
        System.out.println(trade.has(2));           // 3 is the year again

        tell(trade, "village upper harvest 1000");
        System.out.println(trade.treaty());         // -1 is NONE: it is refused, the treaty stays
        System.out.println(trade.fault(0));         // 2 is a number that can't be
        System.out.println(trade.fault(1));         // 22 is its place
        System.out.println(trade.status(1));        // 1 call of treaty() or see() was refused
    }

    /** The tape becomes this text alone, whose signs are 0 to 255. */
    static void tell(FoolTrade trade, String text) {
        trade.end(0);
        for (int at = 0; at < text.length(); at += 20) {
            trade.feed(four(text, at), four(text, at + 4), four(text, at + 8), four(text, at + 12), four(text, at + 16));
        }
        trade.end(text.length());
    }

    private static int four(String text, int at) {
        int number = 0;
        for (int i = at; i < at + 4; i++) {
            number = number << 8 | (i < text.length() ? text.charAt(i) : ' ');
        }
        return number;
    }
}
