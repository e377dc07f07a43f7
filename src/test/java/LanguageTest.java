import java.lang.reflect.Executable;
import java.lang.reflect.Field;
import java.lang.reflect.Method;
import java.lang.reflect.Modifier;
import java.nio.file.Files;
import java.nio.file.Path;
import java.util.ArrayList;
import java.util.List;
import java.util.Set;
import java.util.TreeSet;

/** The rules of LANGUAGE.md that can be looked at: the face, its members, words of the text. */
public final class LanguageTest {
    private static final Set<String> FACE = Set.of("row", "set", "copy", "drop", "feed", "ground",
        "fault", "day", "undo", "strip", "crop", "reaped", "best", "game", "treaty", "sow",
        "unseen", "sure", "image", "restore", "kind", "as", "ask", "trace", "count", "status");

    private static final Set<String> CALLS = Set.of("row(int,int,int)", "set(int,int,int)",
        "copy(int,int,int,int,int)", "drop(int)", "feed(long,int)", "ground()", "fault()",
        "day(int,int)", "undo()", "strip(int,int)", "crop(int,int)", "reaped(int,int)",
        "best(int,int,int)", "game(int,int)", "treaty(int,int)", "sow(int,int,int,int,int,int)",
        "unseen(int,int,int)", "sure(int)", "image(int)", "restore(int)", "kind(int)",
        "as(int,int)", "ask(int,int)", "trace(int)", "count(int)", "status()");

    private static final List<String> FORBIDDEN = List.of("throw", "throws", "try", "catch",
        "synchronized", "assert", "var", "null ==", "->", "::", "Exact", "Override", "double",
        "float", "System.out", "Random", "equals", "hashCode", "toString");

    private LanguageTest() {
    }

    public static void main(String[] args) throws Exception {
        List<Class<?>> classes = new ArrayList<>(List.of(FenceYards.class.getDeclaredClasses()));
        for (Class<?> inside : classes) {
            Due.holds(inside + " is static", Modifier.isStatic(inside.getModifiers()));
            Due.holds(inside + " is not public", !Modifier.isPublic(inside.getModifiers()));
        }
        classes.add(FenceYards.class);
        Due.holds("at most twelve classes", classes.size() <= 12);
        face();
        for (Class<?> one : classes) {
            members(one);
        }
        words();
        methodLengths();
        Due.end();
    }

    private static void face() {
        Set<String> seen = new TreeSet<>();
        for (Method method : FenceYards.class.getDeclaredMethods()) {
            if (!Modifier.isPrivate(method.getModifiers())) {
                seen.add(method.toString());
            }
        }
        Set<String> told = new TreeSet<>();
        for (String call : CALLS) {
            told.add("public int FenceYards." + call);
        }
        Due.holds("the methods of the face, as the document tells them: " + seen, seen.equals(told));
        Due.holds("a final class", Modifier.isFinal(FenceYards.class.getModifiers()));
        Due.due("NONE", FenceYards.NONE, Due.NONE);
        Due.due("BAD", FenceYards.BAD, Due.BAD);
        Due.due("STATE", FenceYards.STATE, Due.STATE);
        Due.due("FULL", FenceYards.FULL, Due.FULL);
        int open = 0;
        for (Field field : FenceYards.class.getDeclaredFields()) {
            open += Modifier.isPrivate(field.getModifiers()) ? 0 : 1;
        }
        Due.due("constants that are public", open, 4);
        Due.due("constructors", FenceYards.class.getDeclaredConstructors().length, 1);
        Due.due("public constructors", FenceYards.class.getConstructors().length, 1);
        Due.due("what it takes", FenceYards.class.getConstructors()[0].getParameterCount(), 0);
    }

    private static void members(Class<?> one) {
        int fields = 0;
        for (Field field : one.getDeclaredFields()) {
            boolean isStatic = Modifier.isStatic(field.getModifiers());
            Due.holds(field + " is final", !isStatic || Modifier.isFinal(field.getModifiers()));
            fields += isStatic ? 0 : 1;
        }
        Due.holds(one + " has at most twenty fields", fields <= 20);
        for (Method method : one.getDeclaredMethods()) {
            fewParameters(method);
            boolean own = !Modifier.isPublic(method.getModifiers());
            Due.holds(method + " has a name of its own", !own || !FACE.contains(method.getName()));
        }
        for (Executable constructor : one.getDeclaredConstructors()) {
            fewParameters(constructor);
        }
    }

    private static void fewParameters(Executable one) {
        Due.holds(one + " has at most seven parameters", one.getParameterCount() <= 7);
    }

    private static String source() throws Exception {
        return Files.readString(Path.of("src/main/java/FenceYards.java"));
    }

    private static void words() throws Exception {
        String code = source().replaceAll("(?s)/\\*.*?\\*/", " ").replaceAll("//[^\n]*", " ");
        for (String word : FORBIDDEN) {
            boolean letters = Character.isLetter(word.charAt(0));
            String pattern = letters ? "(?s).*\\b" + word + "\\b.*" : "(?s).*" + word + ".*";
            Due.holds("no '" + word + "'", !code.matches(pattern));
        }
        for (String line : code.split("\n")) {
            boolean allowed = line.matches("import java\\.util\\.(Arrays|ArrayList|List);");
            Due.holds("an import that is allowed: " + line, !line.startsWith("import") || allowed);
        }
        Due.holds("signs 1 to 127 alone", code.chars().allMatch(c -> c > 0 && c < 128));
    }

    /** A method ends with the first brace that stands where its head began. */
    private static void methodLengths() throws Exception {
        String[] lines = source().split("\n");
        for (int i = 0; i < lines.length; i++) {
            String indent = lines[i].replaceAll("\\S.*", "");
            boolean head = lines[i].endsWith(") {") && (indent.length() == 4 || indent.length() == 8);
            int end = i;
            while (head && end < lines.length && !lines[end].equals(indent + "}")) {
                end++;
            }
            Due.holds("a short method: " + lines[i], end - i < 60);
        }
    }
}
