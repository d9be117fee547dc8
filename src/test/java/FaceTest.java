import java.io.IOException;
import java.lang.reflect.Constructor;
import java.lang.reflect.Field;
import java.lang.reflect.Method;
import java.lang.reflect.Modifier;
import java.nio.file.Files;
import java.nio.file.Path;
import java.util.ArrayList;
import java.util.List;
import java.util.Set;
import java.util.TreeSet;
import java.util.regex.Matcher;
import java.util.regex.Pattern;

/** The public face, and those rules of the language that can be looked up in the class and its text. */
public final class FaceTest {
    private static final String[] FACE = {"int feed(int,int,int,int,int)", "int text(int)", "int fault(int)",
        "int named(int,int)", "int look(int,int)", "int cell(int,int)", "int mark(int,int)", "long law(int,int)",
        "int step(int,int)", "boolean boots(int,int)", "int fox(int,int,int)", "int hours(int)", "int fall(int)",
        "int thaw(int)", "int night()", "int winter()", "int read(int)", "int score(int,int)", "int ahead()",
        "int claim(int,int,int,int)", "int strike(int)", "boolean known(int)", "int judged()", "int forged()",
        "int forgery(int)", "int trail(int)", "int trailed(int,int)", "int quiet(int,int,int)",
        "int hushed(int,int,int)", "int covered(int,int,int)", "int best(int,int,int)", "int rests(int,int)",
        "int rest(int,int,int)", "long sees(int)", "int umpires(long)", "int umpire(long,int)", "int below(int)",
        "int layers()", "int layer(int)", "int chance(int,int,int,int)", "int tried(int,int,int)", "int undo()",
        "int keep()", "int back()", "int count(int)"};

    private static int wrong = 0;

    private static void must(boolean is, String what) {
        if (!is) {
            wrong++;
            System.out.println("not so: " + what);
        }
    }

    public static void main(String[] args) throws IOException {
        Class<?> face = SnowScore.class;
        must(Modifier.isPublic(face.getModifiers()) && Modifier.isFinal(face.getModifiers()), "public and final");
        must(SnowScore.NONE == -1, "NONE");
        methods(face);
        fields(face);
        Constructor<?>[] constructors = face.getDeclaredConstructors();
        must(constructors.length == 1 && Modifier.isPublic(constructors[0].getModifiers())
            && constructors[0].getParameterCount() == 0, "one public constructor");
        Class<?>[] inside = face.getDeclaredClasses();
        must(inside.length <= 12, "some twelve classes: " + inside.length);
        for (Class<?> one : inside) {
            must(Modifier.isStatic(one.getModifiers()), "static: " + one);
            fieldCount(one);
            ownMethods(one);
        }
        fieldCount(face);
        text(Files.readString(Path.of("src/main/java/SnowScore.java")));
        if (wrong > 0) {
            System.exit(1);
        }
        System.out.println("the face is as the document has it");
    }

    private static void methods(Class<?> face) {
        Set<String> due = new TreeSet<>(List.of(FACE));
        Set<String> names = new TreeSet<>();
        Set<String> got = new TreeSet<>();
        for (Method m : face.getDeclaredMethods()) {
            if (Modifier.isPublic(m.getModifiers())) {
                List<String> kinds = new ArrayList<>();
                for (Class<?> kind : m.getParameterTypes()) {
                    kinds.add(kind.getName());
                }
                got.add(m.getReturnType().getName() + " " + m.getName() + "(" + String.join(",", kinds) + ")");
                names.add(m.getName());
                must(!Modifier.isStatic(m.getModifiers()), "of an object: " + m);
                must(m.getExceptionTypes().length == (m.getName().equals("look") ? 2 : 0), "what it throws: " + m);
            }
        }
        must(got.equals(due), "the methods: " + got);
        for (Method m : face.getDeclaredMethods()) {
            if (!Modifier.isPublic(m.getModifiers())) {
                must(Modifier.isPrivate(m.getModifiers()), "private: " + m);
                must(!names.contains(m.getName()), "no private method by a public name: " + m);
            }
        }
    }

    private static void fields(Class<?> face) {
        for (Field f : face.getDeclaredFields()) {
            boolean isPublic = Modifier.isPublic(f.getModifiers());
            must(isPublic ? f.getName().equals("NONE") : Modifier.isPrivate(f.getModifiers()), "private: " + f);
        }
    }

    private static void fieldCount(Class<?> one) {
        int own = 0;
        for (Field f : one.getDeclaredFields()) {
            if (Modifier.isStatic(f.getModifiers())) {
                must(Modifier.isFinal(f.getModifiers()), "final: " + f);
            } else {
                own++;
            }
        }
        must(own <= 20, "some twenty fields: " + one + " has " + own);
    }

    private static void ownMethods(Class<?> one) {
        for (Method m : one.getDeclaredMethods()) {
            must(m.getParameterCount() <= 7, "seven parameters: " + m);
            for (String due : FACE) {
                must(!due.contains(" " + m.getName() + "("), "a name of its own: " + m);
            }
        }
    }

    private static void text(String source) {
        String bare = source.replaceAll("(?s)/\\*.*?\\*/", "").replaceAll("//[^\n]*", "");
        for (String no : new String[] {"->", "::", " package ", "synchronized", "finally", "assert ", "Exact(", "System.out",
            "catch", "Object", "Thread", "Random", "getClass", "hashCode", "String.format"}) {
            must(!bare.contains(no), "none of: " + no);
        }
        must(!Pattern.compile("\"\\s*\\+|\\+\\s*\"").matcher(bare).find(), "no texts joined by +");
        Matcher imports = Pattern.compile("import ([^;]*);").matcher(bare);
        while (imports.find()) {
            must(Set.of("java.util.Arrays", "java.util.NoSuchElementException").contains(imports.group(1)), imports.group());
        }
        methodLengths(source);
    }

    /** By the lines that open and close a method's body, as they are indented here. */
    private static void methodLengths(String source) {
        String[] lines = source.split("\n");
        for (int i = 0; i < lines.length; i++) {
            Matcher head = Pattern.compile("^( {4}| {8})\\S.*\\) (throws .*)?\\{$").matcher(lines[i]);
            if (head.find()) {
                int end = i;
                while (end < lines.length && !lines[end].equals(head.group(1) + "}")) {
                    end++;
                }
                must(end - i <= 60, "some sixty lines: " + lines[i].trim() + " has " + (end - i));
            }
        }
    }
}
