import java.io.PrintWriter;
import java.io.StringWriter;
import java.lang.reflect.Constructor;
import java.lang.reflect.Field;
import java.lang.reflect.Method;
import java.lang.reflect.Modifier;
import java.nio.file.Files;
import java.nio.file.Path;
import java.util.ArrayList;
import java.util.Arrays;
import java.util.List;
import java.util.Map;
import java.util.Set;
import java.util.TreeMap;
import java.util.TreeSet;
import java.util.regex.Matcher;
import java.util.regex.Pattern;
import java.util.spi.ToolProvider;

/** The class has the document's face and no other, and keeps to those rules of LANGUAGE.md that can be seen. */
public final class LanguageTest {
    private static final Path SOURCE = Path.of("src/main/java/FacetSieve.java");
    private static final String[] FACE = {
        "int feed(int,int,int,int,int)", "int end(int)", "int scheme()", "int ask()", "int asked(int)",
        "int fault(int)", "int add(int,int)", "int drop(int)", "int tag(int,int)", "int untag(int,int)",
        "int rank(int,int)", "int choose(int,int)", "int go(int,boolean)", "int why(int,int)", "int undo()",
        "int count(int)", "int head(int,int)", "int value(int,int)", "int box(int,int,int)", "int record(int,int)",
        "boolean has(int,int)", "int left(int,boolean)", "int told(int,boolean)", "int both(int,int,int)",
        "int alike(int)", "int named(int,int)", "int likes(int)", "int spread(int)", "boolean image(int)",
        "boolean again(int)"};
    private static final String[] FORBIDDEN = {
        "\\bthrow\\b", "\\btry\\b", "\\bcatch\\b", "\\bsynchronized\\b", "\\bassert\\b", "->", "::",
        "\\bprotected\\b", "\\bObject\\b", "Exact\\s*\\(", "\\bSystem\\.(?!arraycopy\\b)", "\\bRandom\\b", "\\bThread\\b",
        "\\bequals\\b", "\\bhashCode\\b", "\\btoString\\b", "^package\\b", "\\bvar\\b", "static\\s*\\{"};
    /** What the class needs of rule 4's list; another call of the library is to be looked up there first. */
    private static final Set<String> LIBRARY = Set.of(
        "java/lang/Object.<init>", "java/lang/Integer.bitCount", "java/lang/Math.max", "java/lang/Math.min",
        "java/lang/System.arraycopy", "java/util/Arrays.fill");
    /** Rule 12: objects are made by constructors, and by the one call that keeps an image. */
    private static final String IMAGE_MAKER = "FacetSieve.image";
    private static int wrong = 0;

    private static void check(boolean fine, String what) {
        if (!fine) {
            wrong++;
            System.out.println("not kept: " + what);
        }
    }

    private static String told(Method method) {
        StringBuilder text = new StringBuilder(method.getReturnType().getName());
        text.append(' ').append(method.getName()).append('(');
        Class<?>[] types = method.getParameterTypes();
        for (int i = 0; i < types.length; i++) {
            text.append(i == 0 ? "" : ",").append(types[i].getName());
        }
        return text.append(')').toString();
    }

    private static void face() throws Exception {
        Class<?> sieve = FacetSieve.class;
        check(Modifier.isPublic(sieve.getModifiers()) && Modifier.isFinal(sieve.getModifiers()), "public final class");
        Set<String> open = new TreeSet<>();
        Set<String> names = new TreeSet<>();
        for (Method method : sieve.getDeclaredMethods()) {
            if (!Modifier.isPrivate(method.getModifiers())) {
                open.add(told(method));
                names.add(method.getName());
            }
        }
        check(open.equals(new TreeSet<>(Arrays.asList(FACE))), "the methods of the face: " + open);
        for (Constructor<?> made : sieve.getDeclaredConstructors()) {
            check(made.getParameterCount() == 0 && Modifier.isPublic(made.getModifiers()), "one public constructor");
        }
        for (Field field : sieve.getDeclaredFields()) {
            boolean isNone = field.getName().equals("NONE");
            check(isNone || Modifier.isPrivate(field.getModifiers()), "private field " + field.getName());
        }
        check(FacetSieve.class.getField("NONE").getInt(null) == -1, "NONE is -1");
        int classes = 1;
        for (Class<?> inside : sieve.getDeclaredClasses()) {
            classes++;
            inside(inside, names);
        }
        check(classes <= 12, "at most twelve classes, not " + classes);
    }

    private static void inside(Class<?> inside, Set<String> names) {
        check(Modifier.isStatic(inside.getModifiers()), "static class " + inside.getName());
        int fields = 0;
        for (Field field : inside.getDeclaredFields()) {
            boolean isStatic = Modifier.isStatic(field.getModifiers());
            fields += isStatic ? 0 : 1;
            check(!isStatic || Modifier.isFinal(field.getModifiers()), "final " + field);
        }
        check(fields <= 20, "at most twenty fields in " + inside.getName());
        for (Constructor<?> made : inside.getDeclaredConstructors()) {
            for (Class<?> type : made.getParameterTypes()) {
                // Rule 12: what takes numbers alone can't be handed a part of the object that is being made.
                check(type.isPrimitive(), "a constructor that takes numbers alone: " + made);
            }
        }
        for (Method method : inside.getDeclaredMethods()) {
            check(!names.contains(method.getName()), "no method inside named as a public one: " + method);
            check(method.getParameterCount() <= 7, "at most seven parameters: " + method);
        }
    }

    private static void text() throws Exception {
        String source = Files.readString(SOURCE);
        String code = source.replaceAll("(?s)/\\*.*?\\*/", "").replaceAll("//[^\n]*", "");
        for (String word : FORBIDDEN) {
            Matcher found = Pattern.compile(word, Pattern.MULTILINE).matcher(code);
            check(!found.find(), "no " + word);
        }
        Matcher imports = Pattern.compile("^import (.*);", Pattern.MULTILINE).matcher(code);
        while (imports.find()) {
            check(Set.of("java.util.Arrays", "java.util.ArrayList", "java.util.List").contains(imports.group(1)),
                "import " + imports.group(1));
        }
        check(source.chars().allMatch(sign -> sign == 10 || sign >= 32 && sign < 127), "plain signs alone");
        methodsAreShort(source);
    }

    private static void methodsAreShort(String source) {
        int start = -1;
        String ending = "";
        String[] lines = source.split("\n");
        for (int i = 0; i < lines.length; i++) {
            if (start < 0 && lines[i].matches(" +[A-Za-z].*\\) \\{") && !lines[i].matches(" +(if|for|while|switch|return)\\b.*")) {
                start = i;
                ending = lines[i].replaceAll("\\S.*", "") + "}";
            } else if (start >= 0 && lines[i].equals(ending)) {
                check(i - start < 60, "a method of at most sixty lines at " + (start + 1));
                start = -1;
            }
        }
    }

    /** The classes as the JDK's own tool takes them apart: which method calls which. */
    private static Map<String, Set<String>> calls() throws Exception {
        List<String> words = new ArrayList<>(List.of("-p", "-c", "-cp", System.getProperty("java.class.path"), "FacetSieve"));
        for (Class<?> inside : FacetSieve.class.getDeclaredClasses()) {
            words.add(inside.getName());
        }
        StringWriter out = new StringWriter();
        ToolProvider.findFirst("javap").orElseThrow().run(new PrintWriter(out), new PrintWriter(System.out, true),
            words.toArray(new String[0]));
        Pattern classLine = Pattern.compile("^\\S.*\\bclass (\\S+) .*");
        Pattern methodLine = Pattern.compile("^  (?=\\S).*?([\\w$]+)\\(.*\\);$");
        Pattern callLine = Pattern.compile(".*// (?:Interface)?Method (\\S+?):.*");
        Pattern makingLine = Pattern.compile(" +\\d+: (new|newarray|anewarray|multianewarray|invokedynamic)\\b.*");
        Map<String, Set<String>> calls = new TreeMap<>();
        String inside = "";
        String caller = "";
        for (String line : out.toString().split("\\R")) {
            Matcher isClass = classLine.matcher(line);
            Matcher isMethod = methodLine.matcher(line);
            Matcher isCall = callLine.matcher(line);
            if (isClass.matches()) {
                inside = isClass.group(1);
            } else if (isMethod.matches()) {
                String name = isMethod.group(1);
                caller = inside + "." + (name.equals(inside) ? "<init>" : name);
                calls.putIfAbsent(caller, new TreeSet<>());
            } else if (makingLine.matcher(line).matches()) {
                check(caller.endsWith(".<init>") || caller.equals(IMAGE_MAKER), "nothing made in " + caller + ":" + line);
            } else if (isCall.matches() && calls.containsKey(caller)) {
                String called = isCall.group(1).replace("\"", "");
                calls.get(caller).add(called.contains(".") ? called : inside + "." + called);
            }
        }
        return calls;
    }

    private static List<String> deepest(Map<String, Set<String>> calls, String from, int room) {
        List<String> longest = List.of();
        for (String called : room == 0 ? Set.<String>of() : calls.getOrDefault(from, Set.of())) {
            List<String> chain = deepest(calls, called, room - 1);
            longest = chain.size() > longest.size() ? chain : longest;
        }
        List<String> whole = new ArrayList<>(List.of(from));
        whole.addAll(longest);
        return whole;
    }

    /** Rules 4 and 11, the library's calls counted, too; a method that calls itself would seem endlessly deep. */
    private static void callsMade() throws Exception {
        Map<String, Set<String>> calls = calls();
        int most = 0;
        for (String method : calls.keySet()) {
            List<String> chain = deepest(calls, method, 20);
            most = Math.max(most, chain.size());
            check(chain.size() <= 8, "calls at most eight deep: " + chain);
        }
        for (Set<String> called : calls.values()) {
            for (String method : called) {
                check(calls.containsKey(method) || LIBRARY.contains(method), "no call of " + method);
            }
        }
        check(most >= 4 && calls.containsKey("FacetSieve.ask"), "calls that can be seen");
    }

    public static void main(String[] args) throws Exception {
        face();
        text();
        callsMade();
        System.out.println(wrong == 0 ? "face and language are kept" : wrong + " rules are not kept");
        if (wrong != 0) {
            System.exit(1);
        }
    }
}
