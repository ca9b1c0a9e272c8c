import java.lang.reflect.Constructor;
import java.lang.reflect.Field;
import java.lang.reflect.Method;
import java.lang.reflect.Modifier;
import java.nio.file.Files;
import java.nio.file.Path;
import java.util.ArrayList;
import java.util.HashSet;
import java.util.List;
import java.util.Set;
import java.util.TreeSet;
import java.util.regex.Matcher;
import java.util.regex.Pattern;

/** The face of the document and what a machine can look at of LANGUAGE.md; run at the project's top. */
public final class LanguageTest {
    private static final Path SOURCE = Path.of("src/main/java/ElevenMeasures.java");

    private static final List<String> FACE = List.of(
            "int day(int)", "int feed(long)", "int end(int)", "int text()", "int fault()",
            "int rule(int,int)", "int card(int,int,int,int,int,int,int)", "int of(int,int)",
            "int anew(int,int,int)", "int known(int,int,int)", "int file(int)", "int out(int)",
            "int drawer(int,int)", "int tell(int,int,int,int,int)", "long chance(int,int)",
            "int look(int,int)", "int match(int)", "long byChance(int)", "int grown(int,int,int)",
            "int beside(int,int,int)", "int bar(int,int,boolean)", "int join(int,int)", "int men(int)",
            "int guess(int,int,int)", "int even(int,int,int)", "int judge(int,int,int,int)",
            "int hold(int)", "int held(int,int)", "int wrong(int)", "int sheet(int,int,int)",
            "int lay(int,int,int)", "int read(int,int,int,int,int)", "int torn()", "int count(int)");

    private LanguageTest() {
    }

    public static void main(String[] args) throws Exception {
        faceOfDocument();
        face();
        classes();
        words();
        methodsAreShort();
        Check.close();
    }

    /** The list above is the document's own: each line of "The public face". */
    private static void faceOfDocument() throws Exception {
        String document = Files.readString(Path.of("../shared/DOC.md"));
        Matcher call = Pattern.compile("\n    public (int|long) (\\w+)\\((.*)\\);").matcher(document);
        Set<String> told = new TreeSet<>();
        while (call.find()) {
            String kinds = call.group(3).replaceAll("(\\w+) \\w+", "$1").replace(" ", "");
            told.add(call.group(1) + " " + call.group(2) + "(" + kinds + ")");
        }
        Check.holds("the document's face " + told, told.equals(new TreeSet<>(FACE)));
        Matcher constants = Pattern.compile("public static final int (.*);").matcher(document);
        String due = "BAD = " + ElevenMeasures.BAD + ", STATE = " + ElevenMeasures.STATE
                + ", FULL = " + ElevenMeasures.FULL + ", NONE = " + ElevenMeasures.NONE;
        Check.holds("the document's constants", constants.find() && constants.group(1).equals(due));
    }

    private static void face() {
        Class<?> face = ElevenMeasures.class;
        Check.holds("1: public and final, of no package", face.getModifiers()
                == (Modifier.PUBLIC | Modifier.FINAL) && face.getPackageName().isEmpty());
        Set<String> methods = new TreeSet<>();
        for (Method method : face.getDeclaredMethods()) {
            if (!Modifier.isPrivate(method.getModifiers())) {
                methods.add(told(method));
                Check.due("1: modifiers of " + method, method.getModifiers(), Modifier.PUBLIC);
            }
        }
        Check.holds("1: the methods " + methods, methods.equals(new TreeSet<>(FACE)));
        Set<String> fields = new TreeSet<>();
        for (Field field : face.getDeclaredFields()) {
            if (!Modifier.isPrivate(field.getModifiers())) {
                fields.add(field.getName());
                Check.due("1: modifiers of " + field, field.getModifiers(),
                        Modifier.PUBLIC | Modifier.STATIC | Modifier.FINAL);
            }
        }
        Check.holds("1: the constants " + fields,
                fields.equals(Set.of("BAD", "STATE", "FULL", "NONE")));
        Constructor<?>[] made = face.getDeclaredConstructors();
        Check.holds("1: one constructor", made.length == 1 && made[0].getParameterCount() == 0
                && made[0].getModifiers() == Modifier.PUBLIC);
    }

    private static String told(Method method) {
        List<String> kinds = new ArrayList<>();
        for (Class<?> kind : method.getParameterTypes()) {
            kinds.add(kind.getName());
        }
        return method.getReturnType().getName() + " " + method.getName()
                + "(" + String.join(",", kinds) + ")";
    }

    private static void classes() {
        Set<String> names = new HashSet<>();
        for (String told : FACE) {
            names.add(told.substring(told.indexOf(' ') + 1, told.indexOf('(')));
        }
        List<Class<?>> all = new ArrayList<>(List.of(ElevenMeasures.class.getDeclaredClasses()));
        for (Class<?> inside : all) {
            Check.holds("2: static, not public: " + inside, Modifier.isStatic(inside.getModifiers())
                    && !Modifier.isPublic(inside.getModifiers()));
            Check.due("2: no class in a class inside: " + inside, inside.getDeclaredClasses().length, 0);
        }
        all.add(ElevenMeasures.class);
        Check.holds("11: twelve classes at most", all.size() <= 12);
        for (Class<?> one : all) {
            int fields = 0;
            for (Field field : one.getDeclaredFields()) {
                boolean isStatic = Modifier.isStatic(field.getModifiers());
                fields += isStatic ? 0 : 1;
                Check.holds("5: final: " + field, !isStatic || Modifier.isFinal(field.getModifiers()));
            }
            Check.holds("11: twenty fields at most: " + one, fields <= 20);
            for (Method method : one.getDeclaredMethods()) {
                boolean isFace = Modifier.isPublic(method.getModifiers()) && one == ElevenMeasures.class;
                Check.holds("1: no name of the face: " + method,
                        isFace || !names.contains(method.getName()));
                Check.holds("11: seven parameters at most: " + method,
                        method.getParameterCount() <= 7);
                Check.holds("no synthetic method: " + method, !method.isSynthetic());
            }
        }
    }

    /** The source without comments, and without what stands between quotes. */
    private static String bare() throws Exception {
        String source = Files.readString(SOURCE);
        for (int i = 0; i < source.length(); i++) {
            if (source.charAt(i) > 126) {
                Check.holds("3: a sign above 126 at " + i, false);
            }
        }
        source = Pattern.compile("/\\*.*?\\*/", Pattern.DOTALL).matcher(source).replaceAll("");
        return source.replaceAll("//[^\n]*", "").replaceAll("\"[^\"\n]*\"", "\"\"");
    }

    private static void words() throws Exception {
        String source = bare();
        String[] banned = {"\\bimport\\b", "\\bpackage\\b", "\\bthrow\\b", "\\bthrows\\b", "\\btry\\b",
            "\\bcatch\\b", "\\bfinally\\b", "\\bsynchronized\\b", "\\bassert\\b", "->", "::",
            "\\bstatic\\s*\\{", "\\bnative\\b", "\\btransient\\b", "\\bvolatile\\b", "\\bhashCode\\b",
            "\\btoString\\b", "\\bequals\\b", "\\binstanceof\\b", "Exact\\b", "\\bSystem\\b",
            "\\bThread\\b", "\\bObject\\b", "\"\" \\+", "\\+ \"\"", "@", "\\bvar\\b", "\\bdouble\\b",
            "\\bfloat\\b", "\\bprotected\\b"};
        for (String word : banned) {
            Matcher matcher = Pattern.compile(word).matcher(source);
            Check.holds("no " + word, !matcher.find());
        }
        Matcher calls = Pattern.compile("\\b([A-Z]\\w+)\\.(\\w+)\\(").matcher(source);
        Set<String> allowed = Set.of("Math.max", "Math.min", "Math.abs", "Integer.bitCount");
        while (calls.find()) {
            String name = calls.group(1) + "." + calls.group(2);
            Check.holds("4: " + name, allowed.contains(name));
        }
        // what is made is made when a room is made: in constructors and fields alone
        Matcher made = Pattern.compile("\n( *)([^\n]*)\\bnew \\w+").matcher(source);
        while (made.find()) {
            String line = made.group(2);
            boolean isField = line.contains("final ");
            boolean isConstructed = line.matches("(\\w+|\\w+\\[\\w\\]) = ");
            Check.holds("12: made by a field or a constructor: " + line, isField || isConstructed);
        }
    }

    private static void methodsAreShort() throws Exception {
        String[] lines = Files.readString(SOURCE).split("\n");
        int start = -1;
        String end = "";
        for (int i = 0; i < lines.length; i++) {
            Matcher head = Pattern.compile("( {4}| {8})(?!.*\\bclass\\b)\\w[^=;]*\\) \\{").matcher(lines[i]);
            if (start < 0 && head.matches()) {
                start = i;
                end = head.group(1) + "}";
            } else if (start >= 0 && lines[i].equals(end)) {
                Check.holds("11: short: " + lines[start].trim(), i - start + 1 <= 60);
                start = -1;
            }
            Check.holds("a line of 100 signs at most: " + (i + 1), lines[i].length() <= 100);
        }
        Check.due("methods have ends", start, -1);
    }
}
