import java.io.IOException;
import java.lang.reflect.Constructor;
import java.lang.reflect.Field;
import java.lang.reflect.Method;
import java.lang.reflect.Modifier;
import java.nio.file.Files;
import java.nio.file.Path;
import java.util.Arrays;
import java.util.Set;
import java.util.TreeSet;

/** The public face, and those rules of LANGUAGE.md that can be seen from the class and its text. */
public final class FormTest {
    private static final String SOURCE = "src/main/java/HandCensus.java";
    private static final String[] FACE = {
        "int type(int)", "int wipe()", "int fault()", "int person(int,int)", "int set(int,int)", "int felt(int,int)",
        "int many(int,int)", "int lost(int,int)", "int from(int,int)", "int reached()", "int last()", "int twice()",
        "int round(int)", "int begin(int)", "int passed(int)", "int spans(int,int,int,int,int)", "int limits(int,int,int)",
        "int doubt(int,int)", "int posts(int)", "int heard(int,int)", "int read(int)", "int forget()", "int unlike()",
        "int asleep(int)", "int census(int,int)", "int births(int,int)", "int cannot(int,int)", "int leave(int)",
        "int sheet(int,int,int)", "int lose(int)", "int put(int,int,int,int)", "int get(int,int,int)",
        "int copy(int,int,int,int,int)", "int write(int)", "int count(int)", "long digest()"};

    public static void main(String[] args) throws IOException {
        constants();
        face();
        onlyTheFaceIsSeen();
        classesInside();
        words();
        shortMethods();
        Check.end();
    }

    private static void constants() {
        Check.due("NONE", HandCensus.NONE, -1);
        Check.due("BAD", HandCensus.BAD, -2);
        Check.due("NOT", HandCensus.NOT, -3);
        Check.due("FULL", HandCensus.FULL, -4);
    }

    private static void face() {
        Set<String> seen = new TreeSet<>();
        for (Method method : HandCensus.class.getDeclaredMethods()) {
            if (Modifier.isPublic(method.getModifiers())) {
                StringBuilder types = new StringBuilder();
                for (Class<?> type : method.getParameterTypes()) {
                    types.append(types.length() == 0 ? "" : ",").append(type.getName());
                }
                seen.add(method.getReturnType() + " " + method.getName() + "(" + types + ")");
            }
        }
        Check.holds("the public methods are those of the document", seen.equals(new TreeSet<>(Arrays.asList(FACE))));
        Check.holds("the class is final", Modifier.isFinal(HandCensus.class.getModifiers()));
    }

    private static void onlyTheFaceIsSeen() {
        Set<String> constants = new TreeSet<>(Arrays.asList("NONE", "BAD", "NOT", "FULL"));
        for (Field field : HandCensus.class.getDeclaredFields()) {
            boolean constant = constants.contains(field.getName());
            Check.holds(field.getName() + " is seen only if it is of the face",
                constant ? Modifier.isPublic(field.getModifiers()) : Modifier.isPrivate(field.getModifiers()));
        }
        for (Method method : HandCensus.class.getDeclaredMethods()) {
            int how = method.getModifiers();
            Check.holds(method.getName() + " is public or private", Modifier.isPublic(how) || Modifier.isPrivate(how));
        }
        Constructor<?>[] made = HandCensus.class.getDeclaredConstructors();
        Check.holds("one constructor, without parameters", made.length == 1 && made[0].getParameterCount() == 0);
    }

    private static void classesInside() {
        Set<String> face = new TreeSet<>();
        for (String one : FACE) {
            face.add(one.substring(one.indexOf(' ') + 1, one.indexOf('(')));
        }
        for (Method method : HandCensus.class.getDeclaredMethods()) {
            Check.holds("private " + method.getName() + " bears no public name",
                Modifier.isPublic(method.getModifiers()) || !face.contains(method.getName()));
        }
        Class<?>[] inside = HandCensus.class.getDeclaredClasses();
        Check.holds("at most twelve classes", inside.length < 12);
        for (Class<?> one : inside) {
            Check.holds(one + " is private and static",
                Modifier.isPrivate(one.getModifiers()) && Modifier.isStatic(one.getModifiers()));
            int fields = 0;
            for (Field field : one.getDeclaredFields()) {
                boolean fixed = Modifier.isStatic(field.getModifiers());
                fields += fixed ? 0 : 1;
                Check.holds(one + "." + field.getName() + " is final, if static", !fixed || Modifier.isFinal(field.getModifiers()));
            }
            Check.holds(one + " has at most twenty fields", fields <= 20);
            for (Method method : one.getDeclaredMethods()) {
                Check.holds(one + "." + method.getName() + " bears no public name", !face.contains(method.getName()));
                Check.holds(method.getName() + " takes at most seven", method.getParameterCount() <= 7);
            }
        }
    }

    private static void words() throws IOException {
        String text = Files.readString(Path.of(SOURCE));
        String code = text.replaceAll("(?s)/\\*.*?\\*/", " ").replaceAll("//[^\n]*", " ");
        String[] banned = {"throw", "throws", "try", "catch", "finally", "synchronized", "assert", "package", "protected",
            "System\\.out", "System\\.nanoTime", "System\\.currentTimeMillis", "System\\.identityHashCode", "Thread", "Random",
            "hashCode", "toString", "native", "volatile", "transient", "var", "Object", "Exact"};
        for (String word : banned) {
            Check.holds("no word " + word, !code.matches("(?s).*\\b" + word + "\\b.*"));
        }
        for (String sign : new String[] {"->", "::", "\"", "@"}) {
            Check.holds("no sign " + sign, !code.contains(sign));
        }
        for (String line : code.split("\n")) {
            if (line.startsWith("import ")) {
                Check.holds(line, line.equals("import java.util.Arrays;"));
            }
        }
        for (int i = 0; i < text.length(); i++) {
            if (text.charAt(i) > 126) {
                Check.holds("plain signs alone", false);
            }
        }
    }

    private static void shortMethods() throws IOException {
        int start = 0;
        String name = "";
        String[] lines = Files.readString(Path.of(SOURCE)).split("\n");
        for (int i = 0; i < lines.length; i++) {
            if (lines[i].matches(" {4}( {4})?[a-zA-Z].*\\) \\{")) {
                start = i;
                name = lines[i].trim();
            }
            if (lines[i].matches(" {4}( {4})?\\}")) {
                Check.holds("at most sixty lines: " + name, !name.contains("(") || i - start <= 60);
                name = "";
            }
        }
    }
}
