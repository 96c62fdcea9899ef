import java.io.IOException;
import java.lang.reflect.Constructor;
import java.lang.reflect.Field;
import java.lang.reflect.Method;
import java.lang.reflect.Modifier;
import java.nio.file.Files;
import java.nio.file.Path;
import java.util.ArrayList;
import java.util.HashSet;
import java.util.List;
import java.util.Set;
import java.util.TreeSet;
import java.util.regex.Matcher;
import java.util.regex.Pattern;

/** The face of the document, and those rules of LANGUAGE.md that can be seen without running anything. */
public final class LanguageTest {
    private static final String FACE = "atOnce(int,int)int bill(int)int busy(int,int)int callIs(int,int)int "
        + "cheapest(int,int,int)int check(int)int circuits(int,int,int)int clear()int code(int,int)int count(int)int "
        + "cut(int,int,int)int dialled(int,int)int epitaph(int,int,boolean,int)int feed(int,int,int,int,int)int "
        + "freeCode(int)int fund(int)boolean fundLasts(int)int heir(int,int,int)int inTheMiddle()int keep()int "
        + "law(int)int minutes(int)int rate(int,int)boolean route(int,int,int)int seed(int)boolean stops(int,int)int "
        + "subscriber(int,int,boolean)boolean subscriberIs(int,int)int told(int,int)int tried(int,int)int "
        + "trunk(int,int,int)boolean undo()boolean";
    private static final String[] BARRED = {
        "import", "throw", "throws", "try", "catch", "finally", "synchronized", "assert", "protected", "package",
        "volatile", "native", "transient", "System.out", "Thread", "Random", "currentTimeMillis", "nanoTime",
        "double", "float", "hashCode", "toString", "Object"
    };

    private LanguageTest() {
    }

    public static void main(String[] args) throws IOException {
        String source = Files.readString(Path.of("src/main/java/DeadLines.java"));
        face();
        faceAsWritten(Files.readString(Path.of("../shared/DOC.md")), source);
        insideClasses();
        source(source);
        Due.end();
    }

    private static void no(String what, boolean bad) {
        Due.is(what, bad, false);
    }

    private static void face() {
        Set<String> seen = new TreeSet<>();
        Set<String> names = new HashSet<>();
        for (Method m : DeadLines.class.getDeclaredMethods()) {
            if (Modifier.isPublic(m.getModifiers())) {
                StringBuilder s = new StringBuilder();
                for (Class<?> p : m.getParameterTypes()) {
                    s.append(s.length() > 0 ? "," : "").append(p);
                }
                seen.add(m.getName() + "(" + s + ")" + m.getReturnType());
                names.add(m.getName());
                no(m + " is static", Modifier.isStatic(m.getModifiers()));
            }
        }
        no("the face is " + String.join(" ", seen), !String.join(" ", seen).equals(FACE));
        for (Method m : DeadLines.class.getDeclaredMethods()) {
            boolean open = Modifier.isPublic(m.getModifiers());
            no(m + " is neither public nor private", !open && !Modifier.isPrivate(m.getModifiers()));
            no(m + " bears the name of a public one", !open && names.contains(m.getName()));
        }
        for (Class<?> c : DeadLines.class.getDeclaredClasses()) {
            for (Method m : c.getDeclaredMethods()) {
                no(m + " bears the name of a public one", names.contains(m.getName()));
            }
        }
        for (Field f : DeadLines.class.getDeclaredFields()) {
            boolean open = Modifier.isPublic(f.getModifiers());
            no(f + " is public", open && !f.getName().equals("NONE"));
            no(f + " is neither public nor private", !open && !Modifier.isPrivate(f.getModifiers()));
        }
        no("the class is not final", !Modifier.isFinal(DeadLines.class.getModifiers()));
        Constructor<?>[] made = DeadLines.class.getDeclaredConstructors();
        no("constructors", made.length != 1 || !Modifier.isPublic(made[0].getModifiers()));
    }

    /** Each member that the document writes stands in the source with the same types and names, and no other. */
    private static void faceAsWritten(String document, String source) {
        Set<String> due = members(document.split("```java\n")[1].split("```")[0]);
        Set<String> got = members(source);
        Due.is("members that the document writes", due.size(), 35);
        for (String member : due) {
            no("the source lacks " + member, !got.contains(member));
        }
        for (String member : got) {
            no("the document has no " + member, !due.contains(member));
        }
    }

    private static Set<String> members(String text) {
        Set<String> all = new TreeSet<>();
        for (String row : text.split("\n")) {
            if (row.strip().startsWith("public ")) {
                all.add(row.strip().replaceAll("( \\{|;)$", ""));
            }
        }
        return all;
    }

    private static void insideClasses() {
        List<Class<?>> all = new ArrayList<>(List.of(DeadLines.class.getDeclaredClasses()));
        no("too many classes", all.size() + 1 > 12);
        all.add(DeadLines.class);
        for (Class<?> c : all) {
            no(c + " is not static", c != DeadLines.class && !Modifier.isStatic(c.getModifiers()));
            no(c + " is public", c != DeadLines.class && Modifier.isPublic(c.getModifiers()));
            int fields = 0;
            for (Field f : c.getDeclaredFields()) {
                boolean isStatic = Modifier.isStatic(f.getModifiers());
                fields += isStatic ? 0 : 1;
                no(f + " is static and not final", isStatic && !Modifier.isFinal(f.getModifiers()));
            }
            no(c + " has " + fields + " fields", fields > 20);
            for (Method m : c.getDeclaredMethods()) {
                no(m + " takes too many", m.getParameterCount() > 7);
                no(m + " is made by the compiler", m.isSynthetic());
            }
        }
    }

    private static void source(String source) {
        String bare = source.replaceAll("//[^\n]*", "").replaceAll("(?s)/\\*.*?\\*/", "");
        for (String word : BARRED) {
            no("the source has " + word, Pattern.compile("\\b" + Pattern.quote(word) + "\\b").matcher(bare).find());
        }
        no("a lambda or a method reference", bare.contains("->") || bare.contains("::"));
        no("a function that ends in Exact", bare.contains("Exact("));
        no("an annotation", bare.contains("@"));
        no("a sign beyond 126", source.chars().anyMatch(c -> c > 126));
        Matcher nulls = Pattern.compile("\\bnull\\b").matcher(bare);
        no("a null", nulls.find());
        String[] rows = bare.split("\n");
        int from = -1;
        for (int i = 0; i < rows.length; i++) {
            String row = rows[i].strip();
            if (from < 0 && row.endsWith(") {") && !row.matches("(\\} )?(if|for|while|switch|else).*")) {
                from = i;
            } else if (from >= 0 && rows[i].matches(" *\\}") && indent(rows[i]) == indent(rows[from])) {
                no(rows[from].strip() + " is " + (i - from + 1) + " lines long", i - from + 1 > 60);
                from = -1;
            }
        }
        Matcher news = Pattern.compile("\\bnew\\b").matcher(bare);
        int many = 0;
        while (news.find()) {
            many++;
        }
        // All objects are made when the object is: no call makes one.
        Due.is("new in the source", many, newsOfConstruction(bare));
    }

    private static int indent(String row) {
        return row.length() - row.stripLeading().length();
    }

    /** Those in field initialisers and in the public constructor. */
    private static int newsOfConstruction(String bare) {
        int many = 0;
        for (String row : bare.split("\n")) {
            boolean field = row.matches(" {4,8}(private |static |final )*[A-Za-z\\[\\]]+ \\w+ = new .*");
            boolean made = row.matches(" {8}\\w+ = new \\w+\\(\\w*\\);");
            many += field || made ? 1 : 0;
        }
        return many;
    }
}
