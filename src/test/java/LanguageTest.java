import java.lang.reflect.Constructor;
import java.lang.reflect.Field;
import java.lang.reflect.Member;
import java.lang.reflect.Method;
import java.lang.reflect.Modifier;
import java.nio.file.Files;
import java.nio.file.Paths;
import java.util.Arrays;
import java.util.List;
import java.util.Set;
import java.util.TreeSet;
import java.util.regex.Pattern;

/** The rules of LANGUAGE.md that can be seen from outside, and the document's public face. */
public final class LanguageTest {
    private static final String[] FACE = {
        "int type(long)", "int wipe()", "int whole(int,long)", "int number(int,long,int)", "int empty(int)",
        "int formula(int)", "int function()", "int constant(int)", "int fault()", "int print(int)", "int sign(int)",
        "int take()", "int recalculate()", "int state(int)", "long value(int)", "int failure(int,int)", "int done(int)",
        "int needs(int,int)", "int neededBy(int,int)", "int cycle(int,int)", "int trace(int,int)",
        "long named(int,int,int)", "long old(int,int,int)", "int count(int)",
    };
    private static final String[] BANNED = {
        "->", "::", "\\btry\\s*\\{", "\\bcatch\\b", "\\bthrow\\b", "\\bfinally\\b", "\\bassert\\b", "\\bsynchronized\\b",
        "\\bpackage\\b", "\\bDouble\\.", "\\bFloat\\.", "\\bMath\\.(?!max|min|abs|floorDiv|floorMod)",
        "\\bSystem\\.(?!arraycopy)", "Exact\\(", "\\bstatic\\s*\\{",
    };
    private static int wrong = 0;
    private static int checks = 0;

    public static void main(String[] args) throws Exception {
        face();
        List<Class<?>> all = new java.util.ArrayList<>(Arrays.asList(LoadBook.class.getDeclaredClasses()));
        all.add(LoadBook.class);
        note("at most twelve classes, not " + all.size(), all.size() <= 12);
        for (Class<?> one : all) {
            classRules(one);
        }
        source();
        System.out.println("LanguageTest: " + checks + " checks, " + wrong + " wrong");
        if (wrong > 0) {
            System.exit(1);
        }
    }

    private static void note(String what, boolean holds) {
        checks++;
        if (!holds) {
            wrong++;
            System.out.println("does not hold: " + what);
        }
    }

    private static void face() {
        Set<String> found = new TreeSet<>();
        Set<String> publicNames = new TreeSet<>();
        for (Method m : LoadBook.class.getDeclaredMethods()) {
            if (Modifier.isPublic(m.getModifiers())) {
                StringBuilder b = new StringBuilder(m.getReturnType() + " " + m.getName() + "(");
                for (Class<?> p : m.getParameterTypes()) {
                    b.append(b.charAt(b.length() - 1) == '(' ? "" : ",").append(p);
                }
                found.add(b.append(")").toString());
                publicNames.add(m.getName());
            }
        }
        note("the face is the document's: " + found, found.equals(new TreeSet<>(Arrays.asList(FACE))));
        for (Class<?> c : LoadBook.class.getDeclaredClasses()) {
            for (Method m : c.getDeclaredMethods()) {
                note(c.getName() + "." + m.getName() + " bears no public name", !publicNames.contains(m.getName()));
            }
        }
        int face = LoadBook.class.getModifiers();
        note("LoadBook is public and final", Modifier.isPublic(face) && Modifier.isFinal(face));
        for (Member m : members()) {
            boolean isFace = m instanceof Constructor || m instanceof Method && publicNames.contains(m.getName())
                || m.getName().equals("NONE");
            int mods = m.getModifiers();
            note(m + " is seen as the document says", isFace ? Modifier.isPublic(mods) : Modifier.isPrivate(mods));
        }
    }

    private static List<Member> members() {
        List<Member> list = new java.util.ArrayList<>();
        list.addAll(Arrays.asList(LoadBook.class.getDeclaredConstructors()));
        list.addAll(Arrays.asList(LoadBook.class.getDeclaredMethods()));
        list.addAll(Arrays.asList(LoadBook.class.getDeclaredFields()));
        return list;
    }

    private static void classRules(Class<?> one) {
        int fields = 0;
        for (Field f : one.getDeclaredFields()) {
            if (!Modifier.isStatic(f.getModifiers())) {
                fields++;
                continue;
            }
            Class<?> t = f.getType();
            boolean known = t == int.class || t == long.class || t == boolean.class || t == char.class
                || t == int[].class || t == long[].class || t == char[].class || t == byte[].class;
            note(f + " is a constant", known && Modifier.isFinal(f.getModifiers()));
        }
        note(one + " has at most twenty fields, not " + fields, fields <= 20);
        for (Method m : one.getDeclaredMethods()) {
            note(m + " has at most seven parameters", m.getParameterCount() <= 7);
        }
        if (one != LoadBook.class) {
            note(one + " is static", Modifier.isStatic(one.getModifiers()));
        }
    }

    private static void source() throws Exception {
        String text = new String(Files.readAllBytes(Paths.get("src/main/java/LoadBook.java")));
        String code = text.replaceAll("(?s)/\\*.*?\\*/", "").replaceAll("//[^\n]*", "");
        for (String banned : BANNED) {
            note("no " + banned + " in the source", !Pattern.compile(banned).matcher(code).find());
        }
        int start = -1;
        String[] lines = text.split("\n");
        for (int i = 0; i < lines.length; i++) {
            note("line " + (i + 1) + " has at most 120 signs", lines[i].length() <= 120);
            if (lines[i].matches("    (    )?[a-z].*\\) \\{")) {
                start = i;
            } else if (start >= 0 && lines[i].matches("    (    )?\\}")
                && lines[i].indexOf('}') == lines[start].length() - lines[start].stripLeading().length()) {
                note("the method at line " + (start + 1) + " is short", i - start + 1 <= 60);
                start = -1;
            }
        }
    }
}
