import java.lang.reflect.Constructor;
import java.lang.reflect.Field;
import java.lang.reflect.Method;
import java.lang.reflect.Modifier;
import java.nio.file.Files;
import java.nio.file.Path;
import java.util.Arrays;
import java.util.Set;
import java.util.TreeSet;
import java.util.regex.Matcher;
import java.util.regex.Pattern;

/** The face of the class as the document tells it, and those rules of LANGUAGE.md that can be seen from outside. */
public final class FaceTest {
    private static final String[] FACE = {
        "int feed(int,int,int,int,int)", "boolean end(int)", "int treaty()", "int fault(int)", "int has(int)", "int letter(int,int,int)",
        "int village(int,int)", "int person(int,int)", "long does(int,int)", "int kept(int,int)", "int later(int,int,int)", "int lives(int,int)",
        "int shortage(int)", "long gain(int,int,int)", "int bargain(int)", "int rest(int)", "int exam(int)", "int feign(int)",
        "long worth(int,int)", "int see()", "int wits(int)", "int tells(int,int)", "boolean teach(int,int)", "int bring(int)",
        "boolean calm(int)", "int years(int)", "int chance(int)", "boolean undo()", "boolean seed(int)", "long ask()", "int image()",
        "int octet(int)", "boolean on()", "int status(int)"};
    private static final Trial TRIAL = new Trial();

    public static void main(String[] args) throws Exception {
        Class<?> face = FoolTrade.class;
        TRIAL.due("the class is public and final", Modifier.isPublic(face.getModifiers()) && Modifier.isFinal(face.getModifiers()), true);
        TRIAL.due("NONE", FoolTrade.NONE, -1);
        TRIAL.due("NOTHING", FoolTrade.NOTHING, -1000000000000000L);
        Set<String> methods = new TreeSet<>();
        Set<String> names = new TreeSet<>();
        for (Method m : face.getDeclaredMethods()) {
            if (Modifier.isPrivate(m.getModifiers())) {
                continue;
            }
            names.add(m.getName());
            methods.add(m.toGenericString().replace("public ", "").replace("FoolTrade.", ""));
        }
        TRIAL.due("the methods are " + methods, methods.equals(new TreeSet<>(Arrays.asList(FACE))), true);
        Set<String> fields = new TreeSet<>();
        for (Field f : face.getDeclaredFields()) {
            if (!Modifier.isPrivate(f.getModifiers())) {
                fields.add(f.getName());
            }
        }
        TRIAL.due("the constants are " + fields, fields.equals(Set.of("NONE", "NOTHING")), true);
        for (Constructor<?> c : face.getDeclaredConstructors()) {
            TRIAL.due("the constructor " + c, Modifier.isPublic(c.getModifiers()) && c.getParameterCount() == 0, true);
        }
        inside(face, names);
        limits(face);
        source();
        TRIAL.end("FaceTest");
    }

    private static void inside(Class<?> face, Set<String> names) {
        for (Method m : face.getDeclaredMethods()) {
            TRIAL.due("a private method bears a public one's name: " + m, Modifier.isPrivate(m.getModifiers()) && names.contains(m.getName()), false);
        }
        for (Class<?> c : face.getDeclaredClasses()) {
            TRIAL.due(c + " is static", Modifier.isStatic(c.getModifiers()), true);
            TRIAL.due(c + " is not public", Modifier.isPublic(c.getModifiers()), false);
            for (Method m : c.getDeclaredMethods()) {
                TRIAL.due(m + " bears a public one's name", names.contains(m.getName()), false);
            }
        }
    }

    /** LANGUAGE 11: seven parameters, some twelve classes, some twenty fields beside the constants. */
    private static void limits(Class<?> face) {
        TRIAL.due("twelve classes at most", face.getDeclaredClasses().length < 12, true);
        limitsOf(face);
        for (Class<?> c : face.getDeclaredClasses()) {
            limitsOf(c);
        }
    }

    private static void limitsOf(Class<?> c) {
        int fields = 0;
        for (Field f : c.getDeclaredFields()) {
            boolean constant = Modifier.isStatic(f.getModifiers()) && Modifier.isFinal(f.getModifiers());
            TRIAL.due(f + " is static and no constant", Modifier.isStatic(f.getModifiers()) && !constant, false);
            fields += constant ? 0 : 1;
        }
        TRIAL.due(c + " has twenty fields at most", fields <= 20, true);
        for (Method m : c.getDeclaredMethods()) {
            TRIAL.due(m + " takes seven at most", m.getParameterCount() <= 7, true);
        }
    }

    /** LANGUAGE 11: methods stay short. */
    private static void shortMethods(String text) {
        Matcher m = Pattern.compile("(?ms)^( {4}| {8})(?! |if|for|while|switch|else|\\})([^\n]*\\)) \\{$(.*?)^\\1\\}$").matcher(text);
        while (m.find()) {
            TRIAL.due("lines of " + m.group(2) + ", sixty at most", m.group(3).split("\n").length <= 60, true);
        }
    }

    /** LANGUAGE 12: all objects are made with the one object, so that no call makes any. */
    private static void madeOnce(String text) {
        for (String line : text.split("\n")) {
            if (line.matches(".*\\bnew\\b.*")) {
                boolean once = line.matches(" {4}(?: {4})?(private )?final \\S+ \\w+ = new .*;") || line.trim().equals("worlds[i] = new World();");
                TRIAL.due("with the one object is made " + line.trim(), once, true);
            }
        }
    }

    private static void source() throws Exception {
        Path path = Path.of("src/main/java/FoolTrade.java");
        if (!Files.exists(path)) {
            TRIAL.due("the source is at " + path, false, true);
            return;
        }
        String text = Files.readString(path).replaceAll("(?s)/\\*.*?\\*/", "").replaceAll("//[^\n]*", "").replaceAll("\"[^\"\n]*\"", "\"\"");
        shortMethods(text);
        madeOnce(text);
        Matcher m = Pattern.compile("\\b(throw|try|catch|synchronized|assert|import|package|var|Object|hashCode|toString|getClass|System\\.(?!arraycopy)|Exact)\\b|->|::|\\+ \"|\" \\+").matcher(text);
        while (m.find()) {
            TRIAL.due("the source has " + m.group(), false, true);
        }
    }
}
