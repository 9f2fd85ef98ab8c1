import java.io.IOException;
import java.lang.reflect.Constructor;
import java.lang.reflect.Field;
import java.lang.reflect.Method;
import java.lang.reflect.Modifier;
import java.nio.file.Files;
import java.nio.file.Path;
import java.util.Set;
import java.util.TreeSet;
import java.util.regex.Matcher;
import java.util.regex.Pattern;

/** The face of the document, and those rules of LANGUAGE.md that can be seen in the file. */
public final class LanguageTest {
    private static final String[] FACE = {
        "int write(int)", "int wipe()", "int fault()", "int line()", "int about(int)", "int place(int)",
        "int cell(int,int)", "int valve(int,int)", "int queue(int)", "int step(int)", "int slip()", "int jam()",
        "int clear()", "int restart()", "int lay(boolean,int)", "int set(int,int)", "int come(int)", "int undo()",
        "int ahead(int,int)", "int goes(int,int)", "int best(int)", "int needs(boolean)", "int judge(int,int)",
        "int see(int,int,int)", "int unsee()", "int which()", "int share(int,boolean)",
        "int chance(int,int,boolean)", "long seed(long)", "int drawn(int)", "int keep(int)", "int again(int)"};
    private static final String[] CONSTANTS = {"UNKNOWN", "BAD", "LATE", "FULL", "NONE"};
    private static final int[] VALUES = {-1, -2, -3, -4, -9};

    public static void main(String[] args) throws Exception {
        methods();
        fieldsAndConstructor();
        nestedClasses();
        words();
        Due.end("LanguageTest");
    }

    private static String sign(Method method) {
        StringBuilder sign = new StringBuilder();
        for (Class<?> type : method.getParameterTypes()) {
            sign.append(sign.length() == 0 ? "" : ",").append(type.getSimpleName());
        }
        return method.getReturnType().getSimpleName() + " " + method.getName() + "(" + sign + ")";
    }

    private static void methods() {
        Set<String> open = new TreeSet<>();
        Set<String> openNames = new TreeSet<>();
        Set<String> hiddenNames = new TreeSet<>();
        for (Method method : BottleLine.class.getDeclaredMethods()) {
            if (Modifier.isPrivate(method.getModifiers())) {
                hiddenNames.add(method.getName());
            } else {
                Due.is(method + " is public", Modifier.isPublic(method.getModifiers()) ? 1 : 0, 1);
                Due.is(method + " is static", Modifier.isStatic(method.getModifiers()) ? 1 : 0, 0);
                open.add(sign(method));
                openNames.add(method.getName());
            }
        }
        Due.same("the public methods", open.toString(), new TreeSet<>(Set.of(FACE)).toString());
        for (Class<?> nested : BottleLine.class.getDeclaredClasses()) {
            for (Method method : nested.getDeclaredMethods()) {
                hiddenNames.add(method.getName());
            }
        }
        hiddenNames.retainAll(openNames);
        Due.same("hidden methods with a public name", hiddenNames.toString(), "[]");
    }

    private static void fieldsAndConstructor() throws Exception {
        for (int i = 0; i < CONSTANTS.length; i++) {
            Due.is(CONSTANTS[i], BottleLine.class.getField(CONSTANTS[i]).getInt(null), VALUES[i]);
        }
        Set<String> known = Set.of(CONSTANTS);
        int own = 0;
        for (Field field : BottleLine.class.getDeclaredFields()) {
            boolean hidden = Modifier.isPrivate(field.getModifiers());
            Due.is(field + " is private or a constant", hidden || known.contains(field.getName()) ? 1 : 0, 1);
            if (Modifier.isStatic(field.getModifiers())) {
                Due.is(field + " is final", Modifier.isFinal(field.getModifiers()) ? 1 : 0, 1);
            } else {
                own++;
            }
        }
        Due.is("some twenty fields", own <= 20 ? 1 : 0, 1);
        Constructor<?>[] made = BottleLine.class.getDeclaredConstructors();
        Due.is("constructors", made.length, 1);
        Due.is("parameters of the constructor", made[0].getParameterCount(), 0);
        Due.is("the constructor is public", Modifier.isPublic(made[0].getModifiers()) ? 1 : 0, 1);
        int all = BottleLine.class.getModifiers();
        Due.is("the class is public and final", Modifier.isPublic(all) && Modifier.isFinal(all) ? 1 : 0, 1);
    }

    private static void nestedClasses() {
        Class<?>[] all = BottleLine.class.getDeclaredClasses();
        Due.is("some twelve classes", all.length <= 12 ? 1 : 0, 1);
        for (Class<?> nested : all) {
            int how = nested.getModifiers();
            Due.is(nested + " is static", Modifier.isStatic(how) ? 1 : 0, 1);
            Due.is(nested + " is not public", Modifier.isPublic(how) || Modifier.isProtected(how) ? 1 : 0, 0);
            int own = 0;
            for (Field field : nested.getDeclaredFields()) {
                own += Modifier.isStatic(field.getModifiers()) ? 0 : 1;
            }
            Due.is(nested + " has some twenty fields", own <= 20 ? 1 : 0, 1);
        }
    }

    private static void words() throws IOException {
        String source = Files.readString(Path.of("src/main/java/BottleLine.java"));
        String code = source.replaceAll("(?s)/\\*.*?\\*/", " ").replaceAll("//[^\n]*", " ");
        String[] banned = {"throw", "throws", "try", "catch", "synchronized", "assert", "package", "import", "->",
            "::", "Exact", "volatile", "native", "Object", "hashCode", "toString", "while (true)", "for (;;)",
            "System.out", "System.exit", "Thread", "random()", "nanoTime", "static {"};
        for (String word : banned) {
            Matcher found = Pattern.compile(Pattern.quote(word)).matcher(code);
            boolean isWord = word.matches("[a-z]+");
            if (isWord) {
                found = Pattern.compile("\\b" + word + "\\b").matcher(code);
            }
            Due.is("the file contains " + word, found.find() ? 1 : 0, 0);
        }
        for (char letter : source.toCharArray()) {
            if (letter > 126) {
                Due.is("a sign beyond 126", letter, 0);
            }
        }
        lengths(source.split("\n"));
        library(code);
        makesRowsOnce(code.split("\n"));
    }

    /** Rule 4: of the library only what stands there, and of that only what the class needs. */
    private static void library(String code) {
        Set<String> known = Set.of("Math.max", "Math.min", "Math.abs", "Math.floorMod", "Integer.bitCount",
            "System.arraycopy");
        Set<String> own = new TreeSet<>();
        for (Class<?> nested : BottleLine.class.getDeclaredClasses()) {
            own.add(nested.getSimpleName());
        }
        Matcher used = Pattern.compile("\\b([A-Z]\\w*[a-z]\\w*)\\.\\w+").matcher(code);
        while (used.find()) {
            boolean fits = own.contains(used.group(1)) || known.contains(used.group());
            Due.is(used.group() + " is in the library", fits ? 1 : 0, 1);
        }
    }

    /** All calls of a run share one room: rows are made for fields and in the constructor, never by a call. */
    private static void makesRowsOnce(String[] lines) {
        int made = 0;
        for (int i = 0; i < lines.length; i++) {
            if (lines[i].matches(".*\\bnew\\b.*")) {
                made++;
                boolean field = lines[i].matches(" +(private )?final [\\w\\[\\]]+ \\w+ = new .*");
                boolean row = lines[i].matches(" +(past|slots)\\[i\\] = new State\\(plan\\);");
                Due.is("what is made is kept: " + lines[i].trim(), field || row ? 1 : 0, 1);
            }
        }
        Due.is("rows are made", made > 0 ? 1 : 0, 1);
    }

    /** A method or a class begins in its indentation and ends with the brace below it. */
    private static void lengths(String[] lines) {
        for (int i = 0; i < lines.length; i++) {
            Due.is("line " + (i + 1) + " is short", lines[i].length() <= 120 ? 1 : 0, 1);
            if (!lines[i].matches(" +(\\w+ )*\\w+\\(.*\\) \\{")) {
                continue;
            }
            String indent = lines[i].replaceAll("\\S.*", "");
            int end = i;
            while (!lines[end].equals(indent + "}") && end < lines.length - 1) {
                end++;
            }
            Due.is("lines of the method at " + (i + 1), end - i <= 60 ? 1 : 0, 1);
        }
    }
}
