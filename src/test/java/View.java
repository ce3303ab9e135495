/** All that can be asked of an object without changing it, as one text: two objects alike have the same. */
final class View {
    private View() {
    }

    static String of(FoolTrade t) {
        StringBuilder b = new StringBuilder();
        for (int what = 0; what < 8; what++) {
            b.append(' ').append(t.has(what));
        }
        for (int v = 0; v < 2; v++) {
            b.append(" | village ").append(t.letter(0, v, 0));
            for (int what = 0; what < 6; what++) {
                b.append(' ').append(t.village(v, what));
            }
            b.append(" later ").append(t.later(v, 2, 0)).append(' ').append(t.later(v, 2, 1));
        }
        for (int p = 0; p < t.has(1); p++) {
            b.append(" | person ").append(t.letter(1, p, 0));
            for (int what = 0; what < 7; what++) {
                b.append(' ').append(t.person(p, what));
            }
            b.append(" does ").append(t.does(p, 1)).append(" by what is seen ").append(t.wits(p));
        }
        b.append(" | kept");
        int told = t.has(5);
        for (int k = Math.max(0, told - 5); k < told; k++) {
            b.append(' ').append(t.kept(k, 0)).append(',').append(t.kept(k, 1)).append(',').append(t.kept(k, 2));
        }
        b.append(" | octets");
        for (int k = 0; k < 4; k++) {
            b.append(' ').append(t.octet(k));
        }
        return b.toString();
    }

    static String fault(FoolTrade t) {
        return t.fault(0) + " at " + t.fault(1);
    }
}
