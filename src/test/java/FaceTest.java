import java.lang.reflect.Field;
import java.lang.reflect.Member;
import java.lang.reflect.Method;
import java.lang.reflect.Modifier;
import java.nio.file.Files;
import java.nio.file.Path;
import java.util.ArrayList;
import java.util.List;
import java.util.Set;
import java.util.TreeSet;
import java.util.regex.Matcher;
import java.util.regex.Pattern;

/** The face of the class is the document's and no more, and its text keeps to the rules of LANGUAGE.md. */
public final class FaceTest {
    private static final String SOURCE = "src/main/java/StolenCup.java";
    private static final String[] FACE = {
        "boolean now 1", "int person 2", "int thing 3", "int passing 9", "boolean mind 4", "int feed 5", "int law 2",
        "boolean sends 3", "int rules 4", "int whose 2", "int title 3", "int when 4", "int holds 1", "int register 1",
        "int may 2", "int hangs 2", "int asked 4", "int back 2", "int out 3", "int joined 4", "boolean road 3",
        "int cheapest 6", "int stopped 6", "int check 3", "int look 3", "int count 1"};

    private static int wrong;

    public static void main(String[] args) throws Exception {
        testMembers();
        testNames();
        testWords();
        testSizes();
        System.out.println(wrong == 0 ? "the face is as due" : wrong + " faults of the face");
        if (wrong != 0) {
            System.exit(1);
        }
    }

    private static void due(boolean holds, String what) {
        if (!holds) {
            wrong++;
            System.out.println(what);
        }
    }

    private static void testMembers() throws Exception {
        due(Modifier.isFinal(StolenCup.class.getModifiers()), "the class is final");
        due(StolenCup.class.getField("NONE").getInt(null) == -1, "NONE is -1");
        due(StolenCup.class.getConstructors().length == 1, "one constructor");
        Set<String> found = new TreeSet<>();
        List<Member> others = new ArrayList<>();
        for (Method m : StolenCup.class.getDeclaredMethods()) {
            if (Modifier.isPublic(m.getModifiers())) {
                found.add(m.getReturnType() + " " + m.getName() + " " + m.getParameterCount());
            } else if (!m.isSynthetic()) {
                others.add(m);
            }
        }
        due(found.equals(new TreeSet<>(List.of(FACE))), "the public methods are those of the document: " + found);
        for (Field field : StolenCup.class.getDeclaredFields()) {
            if (!field.getName().equals("NONE")) {
                others.add(field);
            }
        }
        for (Member m : others) {
            due(Modifier.isPrivate(m.getModifiers()), m + " is private");
        }
    }

    private static void testNames() {
        Set<String> names = new TreeSet<>();
        for (String line : FACE) {
            names.add(line.split(" ")[1]);
        }
        List<Class<?>> classes = new ArrayList<>(List.of(StolenCup.class.getDeclaredClasses()));
        classes.add(StolenCup.class);
        due(classes.size() <= 12, "twelve classes at most");
        for (Class<?> c : classes) {
            due(c == StolenCup.class || Modifier.isStatic(c.getModifiers()), c + " is static");
            for (Method m : c.getDeclaredMethods()) {
                due(Modifier.isPublic(m.getModifiers()) || !names.contains(m.getName()), m + " has a name of its own");
                due(m.getName().equals("passing") || m.getParameterCount() <= 7, m + " has at most seven parameters");
            }
            int fields = 0;
            for (Field field : c.getDeclaredFields()) {
                boolean isStatic = Modifier.isStatic(field.getModifiers());
                due(!isStatic || Modifier.isFinal(field.getModifiers()), field + " is final");
                fields += isStatic ? 0 : 1;
            }
            due(fields <= 20, c + " has at most twenty fields");
        }
    }

    private static void testWords() throws Exception {
        String code = Files.readString(Path.of(SOURCE)).replaceAll("(?s)/\\*.*?\\*/", "").replaceAll("//.*", "");
        for (String word : new String[] {"throw", "throws", "try", "catch", "finally", "synchronized", "assert", "package",
            "volatile", "transient", "native", "var", "Object", "Math.addExact", "System.out", "hashCode", "toString"}) {
            due(!Pattern.compile("\\b" + word + "\\b").matcher(code).find(), "the word " + word + " is not used");
        }
        due(!code.contains("->") && !code.contains("::"), "no lambda and no method reference");
        due(!code.contains("@"), "no annotation");
        Matcher imports = Pattern.compile("import ([^;]*);").matcher(code);
        while (imports.find()) {
            due(Set.of("java.util.Arrays", "java.util.ArrayList", "java.util.List").contains(imports.group(1)),
                "import of " + imports.group(1));
        }
    }

    /** A method begins and ends at the indent of its class's members. */
    private static void testSizes() throws Exception {
        int begin = 0;
        String indent = "";
        List<String> lines = Files.readAllLines(Path.of(SOURCE));
        for (int n = 0; n < lines.size(); n++) {
            Matcher m = Pattern.compile("( +)(public|private) .*\\) \\{").matcher(lines.get(n));
            if (m.matches()) {
                begin = n;
                indent = m.group(1);
            }
            if (begin > 0 && lines.get(n).equals(indent + "}")) {
                due(n - begin <= 60, "the method at line " + (begin + 1) + " is short");
                begin = 0;
            }
            due(lines.get(n).length() <= 120, "line " + (n + 1) + " is short");
        }
    }
}
