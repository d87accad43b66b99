import java.lang.reflect.Constructor;
import java.lang.reflect.Field;
import java.lang.reflect.Member;
import java.lang.reflect.Method;
import java.lang.reflect.Modifier;
import java.nio.file.Files;
import java.nio.file.Path;
import java.util.ArrayList;
import java.util.Arrays;
import java.util.List;
import java.util.Map;
import java.util.Set;
import java.util.TreeMap;
import java.util.TreeSet;
import java.util.regex.Matcher;
import java.util.regex.Pattern;

/** The rules of LANGUAGE.md that can be looked at from outside: the face, the words, the sizes. */
public final class BellBayLanguage {
    private static int wrong = 0;

    private static void fail(String why) {
        wrong++;
        System.out.println(why);
    }

    // ---------------------------------------------------------------- the face

    private static void checkFace(Path document) throws Exception {
        String text = Files.readString(document);
        int from = text.indexOf("public final class BellBay {");
        String face = text.substring(from, text.indexOf("```", from));
        Set<String> want = new TreeSet<>();
        Matcher m = Pattern.compile("public (\\w+ )?(\\w+)\\(([^)]*)\\);").matcher(face);
        while (m.find()) {
            String types = m.group(3).replaceAll("(\\w+) \\w+", "$1").replace(" ", "");
            want.add((m.group(1) == null ? "" : m.group(1)) + m.group(2) + "(" + types + ")");
        }
        Set<String> got = new TreeSet<>();
        for (Method one : BellBay.class.getDeclaredMethods()) {
            if (!Modifier.isPrivate(one.getModifiers())) {
                got.add(one.getReturnType().getSimpleName() + " " + one.getName() + types(one.getParameterTypes()));
            }
        }
        for (Constructor<?> one : BellBay.class.getDeclaredConstructors()) {
            got.add("BellBay" + types(one.getParameterTypes()));
        }
        if (want.size() != 64 || !want.equals(got)) {
            fail("the face is not the document's: " + got + " and not " + want);
        }
        List<String> constants = new ArrayList<>();
        for (Field one : BellBay.class.getDeclaredFields()) {
            if (!Modifier.isPrivate(one.getModifiers())) {
                constants.add(Modifier.toString(one.getModifiers()) + " " + one.getType() + " " + one.getName());
            }
        }
        if (!constants.equals(List.of("public static final int NONE"))) {
            fail("constants of the face: " + constants);
        }
        if (!Modifier.isFinal(BellBay.class.getModifiers()) || !Modifier.isPublic(BellBay.class.getModifiers())) {
            fail("the class is not public and final");
        }
    }

    private static String types(Class<?>[] all) {
        List<String> names = new ArrayList<>();
        for (Class<?> one : all) {
            names.add(one.getSimpleName());
        }
        return "(" + String.join(",", names) + ")";
    }

    // ---------------------------------------------------------------- classes, fields, methods

    private static void checkClasses() {
        Set<String> faceNames = new TreeSet<>();
        for (Method one : BellBay.class.getMethods()) {
            faceNames.add(one.getName());
        }
        List<Class<?>> all = new ArrayList<>(Arrays.asList(BellBay.class.getDeclaredClasses()));
        all.add(BellBay.class);
        if (all.size() > 12) {
            fail(all.size() + " classes");
        }
        for (Class<?> one : all) {
            if (one != BellBay.class && (!Modifier.isStatic(one.getModifiers()) || Modifier.isPublic(one.getModifiers()))) {
                fail(one + " is not static and hidden");
            }
            int fields = 0;
            for (Field f : one.getDeclaredFields()) {
                boolean fixed = Modifier.isStatic(f.getModifiers());
                fields += fixed ? 0 : 1;
                if (fixed && !Modifier.isFinal(f.getModifiers())) {
                    fail(f + " is static and not final");
                }
            }
            if (fields > 20) {
                fail(one + " has " + fields + " fields");
            }
            for (Method m : one.getDeclaredMethods()) {
                checkMember(m, one, faceNames, m.getParameterCount());
            }
        }
    }

    private static void checkMember(Member m, Class<?> in, Set<String> faceNames, int parameters) {
        boolean ofFace = in == BellBay.class && Modifier.isPublic(m.getModifiers());
        if (!ofFace && faceNames.contains(m.getName())) {
            fail(m + " bears the name of a public one");
        }
        if (parameters > 7) {
            fail(m + " has " + parameters + " parameters");
        }
    }

    // ---------------------------------------------------------------- the words

    private static String bare(String source) {
        String bare = source.replaceAll("(?s)/\\*.*?\\*/", "").replaceAll("//[^\n]*", "");
        return bare.replaceAll("\"[^\"\n]*\"", "\"\"").replaceAll("'[^'\n]*'", "' '");
    }

    private static void checkWords(String source) {
        String bare = bare(source);
        String[] never = {"\\bthrow\\b", "\\bthrows\\b", "\\btry\\b", "\\bcatch\\b", "\\bsynchronized\\b", "\\bassert\\b",
            "->", "::", "\\bSystem\\.(?!arraycopy\\b)", "\\bArrays\\.(?!fill\\b|copyOf\\b|copyOfRange\\b)", "Exact\\b", "\\bThread\\b",
            "\\bRandom\\b", "\\bnew \\w+\\([^)]*\\) *\\{", "\\bpackage\\b", "\\bprotected\\b", "\\bdouble\\b", "\\bfloat\\b",
            "\\bhashCode\\b", "\\btoString\\b", "static *\\{", "\\bequals\\b", "\\bvar\\b", "while *\\(true\\)", "for *\\(;;\\)"};
        for (String word : never) {
            Matcher m = Pattern.compile(word).matcher(bare);
            if (m.find()) {
                fail("the source has " + m.group());
            }
        }
        Matcher imports = Pattern.compile("import ([^;]+);").matcher(bare);
        while (imports.find()) {
            if (!imports.group(1).equals("java.util.Arrays")) {
                fail("import of " + imports.group(1));
            }
        }
        for (char ch : source.toCharArray()) {
            if (ch != '\n' && (ch < 32 || ch > 126)) {
                fail("a sign out of the plain ones: " + (int) ch);
                return;
            }
        }
    }

    /** Lengths of methods, and how deep their calls go; methods of one name are taken as one. */
    private static void checkMethods(String source) {
        String[] lines = bare(source).split("\n");
        Map<String, String> bodies = new TreeMap<>();
        int begin = -1;
        String indent = "";
        for (int i = 0; i < lines.length; i++) {
            boolean head = lines[i].matches(" {4,8}[\\w\\[\\] ]*\\w\\([^;]*\\) \\{") && !lines[i].matches(" *(if|for|while|switch|else).*");
            if (head) {
                begin = i;
                indent = lines[i].replaceAll("\\S.*", "");
            } else if (begin >= 0 && lines[i].equals(indent + "}")) {
                if (i - begin + 1 > 60) {
                    fail("long: " + lines[begin].trim());
                }
                String name = lines[begin].replaceAll("\\(.*", "").replaceAll(".*\\W", "");
                bodies.merge(name, String.join("\n", Arrays.copyOfRange(lines, begin + 1, i)), String::concat);
                begin = -1;
            }
        }
        if (bodies.size() < 120) {
            fail("only " + bodies.size() + " methods were seen");
        }
        Map<String, Integer> known = new TreeMap<>();
        for (String name : bodies.keySet()) {
            if (deepest(name, bodies, known) > 8) {
                fail(name + " goes " + known.get(name) + " deep");
            }
        }
    }

    private static int deepest(String name, Map<String, String> bodies, Map<String, Integer> known) {
        if (known.containsKey(name)) {
            return known.get(name);
        }
        known.put(name, 1000);
        int most = 1;
        Matcher m = Pattern.compile("(\\w+)\\(").matcher(bodies.get(name));
        while (m.find()) {
            if (bodies.containsKey(m.group(1))) {
                most = Math.max(most, 1 + deepest(m.group(1), bodies, known));
            }
        }
        known.put(name, most);
        return most;
    }

    public static void main(String[] args) throws Exception {
        if (args.length < 2) {
            System.out.println("tell where the source and the document are");
            System.exit(1);
        }
        String source = Files.readString(Path.of(args[0]));
        checkFace(Path.of(args[1]));
        checkClasses();
        checkWords(source);
        checkMethods(source);
        System.out.println(wrong + " rules broken");
        if (wrong != 0) {
            System.exit(1);
        }
    }
}
