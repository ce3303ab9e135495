import java.lang.reflect.InvocationTargetException;
import java.lang.reflect.Method;
import java.lang.reflect.Modifier;
import java.util.ArrayList;
import java.util.Comparator;
import java.util.List;
import java.util.Random;

/** No call throws, whatever its arguments and the state: 512 calls each on objects with and without a treaty. */
public final class AnyCallTest {
    private static final int OBJECTS = 400;
    private static final int CALLS = 512;
    private static final int[] EDGES = {Integer.MIN_VALUE, -1000, -2, -1, 0, 1, 2, 3, 4, 5, 6, 7, 8, 9, 10, 16, 20, 30, 31, 32, 33, 40, 60, 61, 99, 100, 101, 999, 1000,
        1580, 1599, 1600, 1601, Integer.MAX_VALUE};
    private static final String[] TEXTS = {
        "village a harvest 10 quarrel 2;village b harvest 20 quarrel 3;",
        "village a harvest 0 quarrel 0;village b harvest 999 quarrel 99;person p of a wits 3 oath 1 cheer 5;person r of b wits 2 oath 8 cheer 4;"
            + "sends 9999*9999*9999/(wits-3);goose not [wits<5 and away/away=0];does (harvest-500)*(0-9999)/quarrel;fights guests*9999-harvest;stays away<99;snow 50;",
        "first not [not [wits/away=0]]", "total does harvest does (0-lives)", "most 9999*9999*9999/(number-1)", "total (((((((", "village a harvest 1"};
    private static final Random RANDOM = new Random(20261118L);

    public static void main(String[] args) throws Exception {
        Trial trial = new Trial();
        trial.about("LANGUAGE 7: no call may ever throw, for any arguments in any state");
        List<Method> face = new ArrayList<>();
        for (Method m : FoolTrade.class.getDeclaredMethods()) {
            if (Modifier.isPublic(m.getModifiers())) {
                face.add(m);
            }
        }
        face.sort(Comparator.comparing(Method::toString));
        for (int i = 0; i < OBJECTS; i++) {
            trial.due("calls that threw", throwing(face, i % 4 == 0 ? new FoolTrade() : Trial.by(TEXTS[i % 2])), 0);
        }
        trial.end("AnyCallTest");
    }

    private static int throwing(List<Method> face, FoolTrade t) throws IllegalAccessException {
        int thrown = 0;
        for (int i = 0; i < CALLS; i++) {
            if (RANDOM.nextInt(12) == 0) {
                Trial.feed(t, tape());
            }
            Method m = face.get(RANDOM.nextInt(face.size()));
            Object[] arguments = new Object[m.getParameterCount()];
            for (int k = 0; k < arguments.length; k++) {
                arguments[k] = RANDOM.nextInt(9) == 0 ? RANDOM.nextInt() : EDGES[RANDOM.nextInt(EDGES.length)];
            }
            try {
                m.invoke(t, arguments);
            } catch (InvocationTargetException e) {
                thrown++;
                System.out.println(m + " threw " + e.getCause());
            }
        }
        return thrown;
    }

    private static byte[] tape() {
        byte[] bytes = new byte[RANDOM.nextInt(3) == 0 ? RANDOM.nextInt(1600) : RANDOM.nextInt(80)];
        RANDOM.nextBytes(bytes);
        String text = TEXTS[RANDOM.nextInt(TEXTS.length)];
        switch (RANDOM.nextInt(4)) {
            case 0: return bytes;
            case 1: return Trial.bytes(text);
            case 2: return Trial.bytes(text.substring(0, RANDOM.nextInt(text.length())) + text.substring(RANDOM.nextInt(text.length())));
            default: return Trial.octets(RANDOM.nextInt(32), RANDOM.nextInt(3), RANDOM.nextInt(4), RANDOM.nextInt(256));
        }
    }
}
