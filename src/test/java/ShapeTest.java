import java.lang.reflect.Constructor;
import java.lang.reflect.Field;
import java.lang.reflect.Member;
import java.lang.reflect.Method;
import java.lang.reflect.Modifier;
import java.nio.charset.StandardCharsets;
import java.nio.file.Files;
import java.nio.file.Path;
import java.util.Map;
import java.util.Set;
import java.util.TreeMap;
import java.util.TreeSet;

/** The public face, and the rules of LANGUAGE.md that a program can see. Run from the project's root. */
public final class ShapeTest {
    private static final String FACE = "all() as(int,int) ahead(int,int,int) away(int,int,int) best(int) "
        + "booth(int) broke(int) change(int,int,int) copy(int,int,int,int,int) count(int) faults(int,int) "
        + "feed(int,int) fits(int,int) go(int) hold(int,int) image() judge(int) kindFor(int,int) "
        + "kinds(int,int) lamps(int) later(int,int) lightFor(int,int) load(int) merryFor(int,int) now(int) "
        + "odds(int,int,int,int) of(int,int) place(int) priceFor(int) queue(int,int) seed(int) set(int,int) "
        + "sheet(int,int,int) sitter(int,int) status(int) stoolFor(int) tall(int,int) tear() text() "
        + "turnFor(int,int) undo() when(int,int) wipe() write(int,int,int)";
    private static final String[] FORBIDDEN = {
        "throw", "throws", "try", "catch", "finally", "synchronized", "assert", "import", "package", "@",
        "->", "::", "Exact", "equals(", "hashCode", "toString", "System.out", "Exception", "var ", "yield"
    };

    private static final Check CHECK = new Check("ShapeTest");

    public static void main(String[] args) throws Exception {
        faceIsTheDocuments();
        nestedClassesAreStatic();
        String source = Files.readString(Path.of("src/main/java/BoothFlash.java"), StandardCharsets.UTF_8);
        sourceIsPlain(source);
        methodsAreShort(source);
        CHECK.end();
    }

    private static String told(Method m) {
        StringBuilder text = new StringBuilder(m.getName()).append('(');
        Class<?>[] types = m.getParameterTypes();
        for (int i = 0; i < types.length; i++) {
            text.append(i == 0 ? "" : ",").append(types[i].getName());
        }
        return text.append(')').toString();
    }

    private static void faceIsTheDocuments() {
        Set<String> face = new TreeSet<>();
        Set<String> publicNames = new TreeSet<>();
        for (Method m : BoothFlash.class.getDeclaredMethods()) {
            if (Modifier.isPublic(m.getModifiers())) {
                face.add(told(m));
                publicNames.add(m.getName());
                Class<?> type = m.getName().equals("odds") ? long.class : int.class;
                CHECK.isTrue("type of " + m, m.getReturnType() == type && !Modifier.isStatic(m.getModifiers()));
            } else {
                CHECK.isTrue("private: " + m, Modifier.isPrivate(m.getModifiers()));
            }
        }
        CHECK.isTrue("the face " + face, face.equals(new TreeSet<>(Set.of(FACE.split(" ")))));
        CHECK.isTrue("public and final", Modifier.isPublic(BoothFlash.class.getModifiers())
            && Modifier.isFinal(BoothFlash.class.getModifiers()));
        Constructor<?>[] constructors = BoothFlash.class.getDeclaredConstructors();
        CHECK.due("constructors", constructors.length, 1);
        CHECK.isTrue("constructor", Modifier.isPublic(constructors[0].getModifiers())
            && constructors[0].getParameterCount() == 0);
        ownNamesAreOthers(publicNames);
    }

    private static void ownNamesAreOthers(Set<String> publicNames) {
        for (Method m : BoothFlash.class.getDeclaredMethods()) {
            CHECK.isTrue("own name " + m, Modifier.isPublic(m.getModifiers()) || !publicNames.contains(m.getName()));
        }
        for (Field f : BoothFlash.class.getDeclaredFields()) {
            CHECK.isTrue("private: " + f, Modifier.isPrivate(f.getModifiers()));
        }
        checkStatics(BoothFlash.class);
    }

    private static void checkStatics(Class<?> one) {
        int own = 0;
        for (Field f : one.getDeclaredFields()) {
            if (Modifier.isStatic(f.getModifiers())) {
                CHECK.isTrue("final: " + f, Modifier.isFinal(f.getModifiers()) && f.getType() == int.class);
            } else {
                own++;
            }
        }
        CHECK.isTrue("fields of " + one, own <= 20);
    }

    private static void nestedClassesAreStatic() {
        Class<?>[] nested = BoothFlash.class.getDeclaredClasses();
        CHECK.isTrue("classes", nested.length <= 11);
        for (Class<?> one : nested) {
            CHECK.isTrue("static: " + one, Modifier.isStatic(one.getModifiers()));
            CHECK.isTrue("private: " + one, Modifier.isPrivate(one.getModifiers()));
            checkStatics(one);
            Map<String, Member> members = new TreeMap<>();
            for (Method m : one.getDeclaredMethods()) {
                members.put(m.getName(), m);
                CHECK.isTrue("parameters of " + m, m.getParameterCount() <= 7);
            }
            for (Method m : BoothFlash.class.getMethods()) {
                CHECK.isTrue(one + "." + m.getName(), !members.containsKey(m.getName()));
            }
        }
    }

    /** The source without comments and texts. */
    private static String bare(String source) {
        return source.replaceAll("(?s)/\\*.*?\\*/", "").replaceAll("//[^\n]*", "")
            .replaceAll("\"[^\"\n]*\"", "\"\"");
    }

    private static void sourceIsPlain(String source) {
        String bare = bare(source);
        for (String word : FORBIDDEN) {
            boolean isName = Character.isLetter(word.charAt(0)) && Character.isLetter(word.charAt(word.length() - 1));
            String sought = isName && !word.equals("Exact") && !word.equals("Exception")
                ? "\\b" + word + "\\b" : java.util.regex.Pattern.quote(word);
            CHECK.isTrue("no " + word, !java.util.regex.Pattern.compile(sought).matcher(bare).find());
        }
        for (int i = 0; i < source.length(); i++) {
            if (source.charAt(i) > 126) {
                CHECK.isTrue("plain signs at " + i, false);
            }
        }
    }

    /** Objects are made in constructors alone, and no method is longer than sixty lines. */
    private static void methodsAreShort(String source) {
        String[] lines = bare(source).split("\n");
        int begin = -1;
        String end = "";
        boolean isConstructor = false;
        for (int i = 0; i < lines.length; i++) {
            String line = lines[i];
            String indent = line.substring(0, line.length() - line.stripLeading().length());
            boolean opens = line.matches("( {4}| {8})[\\w\\[\\] ]*\\([^;]*\\) \\{");
            if (begin < 0 && opens) {
                begin = i;
                end = indent + "}";
                isConstructor = line.matches(" *(public )?[A-Z]\\w*\\([^;]*\\) \\{");
            }
            if (line.contains("new ")) {
                CHECK.isTrue("made outside a constructor: " + line, begin >= 0 && isConstructor);
            }
            if (begin >= 0 && line.equals(end)) {
                CHECK.isTrue("too long: " + lines[begin], i - begin < 60);
                begin = -1;
            }
        }
    }
}
