import java.io.IOException;
import java.lang.reflect.Constructor;
import java.lang.reflect.Field;
import java.lang.reflect.Method;
import java.lang.reflect.Modifier;
import java.nio.file.Files;
import java.nio.file.Path;
import java.util.Set;
import java.util.TreeSet;
import java.util.regex.Matcher;
import java.util.regex.Pattern;

/** The public face of the document, and those rules of LANGUAGE.md that can be seen from outside or by words. */
public final class FaceTest {
    private static final String[] FACE = {
        "feed(long)", "end(int)", "text()", "fault()", "hold(int,int)", "door(int,int)", "hole(int,int)", "pump(int,int)",
        "rule(int)", "put(int,int)", "go(int)", "now(int)", "keep(int)", "back(int)", "order(int,int,int,int)",
        "given(int,int)", "recall()", "run(int,int)", "water(int,int)", "free(int)", "best(int,int,int)", "latest(int,int)",
        "helps(int)", "together(int)", "beside(int,int)", "most(int)", "upright(int)", "men(int)", "dry(int,int)",
        "sound(int)", "wipe()", "rates(int)", "sheet(int,int,int)", "lay(int,int,int)", "read(int,int,int,int)", "torn()",
        "count(int)"};

    public static void main(String[] args) throws IOException {
        methods();
        constants();
        fieldsAndClasses();
        words(Files.readString(Path.of("src/main/java/WhichHold.java")));
        Check.finish("FaceTest");
    }

    private static void is(String what, boolean holds) {
        Check.due(what, 1, holds ? 1 : 0);
    }

    private static void methods() {
        Set<String> open = new TreeSet<>();
        Set<String> names = new TreeSet<>();
        for (Method m : WhichHold.class.getDeclaredMethods()) {
            if (Modifier.isPublic(m.getModifiers())) {
                StringBuilder types = new StringBuilder();
                for (Class<?> t : m.getParameterTypes()) {
                    types.append(types.length() == 0 ? "" : ",").append(t.getName());
                }
                open.add(m.getName() + "(" + types + ")");
                names.add(m.getName());
                is(m + " answers an int", m.getReturnType() == int.class && !Modifier.isStatic(m.getModifiers()));
            } else {
                is(m + " is private", Modifier.isPrivate(m.getModifiers()));
            }
        }
        is("the face is that of the document", open.equals(new TreeSet<>(Set.of(FACE))));
        for (Class<?> c : classes()) {
            for (Method m : c.getDeclaredMethods()) {
                boolean own = c == WhichHold.class && Modifier.isPublic(m.getModifiers());
                is(m + " bears no name of the face", own || !names.contains(m.getName()));
                is(m + " has at most seven parameters", m.getParameterCount() <= 7);
            }
        }
    }

    private static Class<?>[] classes() {
        Class<?>[] inside = WhichHold.class.getDeclaredClasses();
        Class<?>[] all = new Class<?>[inside.length + 1];
        System.arraycopy(inside, 0, all, 1, inside.length);
        all[0] = WhichHold.class;
        return all;
    }

    private static void constants() {
        Check.due("BAD", -1, WhichHold.BAD);
        Check.due("STATE", -2, WhichHold.STATE);
        Check.due("FULL", -3, WhichHold.FULL);
        Check.due("NONE", -4, WhichHold.NONE);
    }

    private static void fieldsAndClasses() {
        Constructor<?>[] made = WhichHold.class.getDeclaredConstructors();
        is("one public constructor", made.length == 1 && Modifier.isPublic(made[0].getModifiers()) && made[0].getParameterCount() == 0);
        is("public and final", Modifier.isPublic(WhichHold.class.getModifiers()) && Modifier.isFinal(WhichHold.class.getModifiers()));
        is("at most twelve classes", classes().length <= 12);
        for (Class<?> c : classes()) {
            int fields = 0;
            is(c + " is static", c == WhichHold.class || Modifier.isStatic(c.getModifiers()));
            for (Field f : c.getDeclaredFields()) {
                boolean fixed = Modifier.isStatic(f.getModifiers());
                fields += fixed ? 0 : 1;
                is(f + " is final", !fixed || Modifier.isFinal(f.getModifiers()));
                boolean told = Set.of("BAD", "STATE", "FULL", "NONE").contains(f.getName());
                is(f + " is private", c != WhichHold.class || told || Modifier.isPrivate(f.getModifiers()));
            }
            is(c + " has at most twenty fields", fields <= 20);
        }
    }

    private static void words(String source) {
        String bare = source.replaceAll("(?s)/\\*.*?\\*/", "").replaceAll("//[^\n]*", "").replaceAll("\"[^\"]*\"", "\"\"");
        String[] none = {"throw", "throws", "try", "catch", "finally", "synchronized", "assert", "new Object", "var", "package",
            "equals", "hashCode", "toString", "Random", "Thread", "currentTimeMillis", "nanoTime"};
        for (String word : none) {
            is("no word " + word, !Pattern.compile("\\b" + word + "\\b").matcher(bare).find());
        }
        is("no lambda", !bare.contains("->"));
        is("no method reference", !bare.contains("::"));
        is("no Exact", !Pattern.compile("\\w+Exact\\b").matcher(bare).find());
        is("only signs 1 to 127", bare.chars().allMatch(c -> c > 0 && c < 128));
        only(bare, "import ([\\w.]+);", "java.util.Arrays");
        only(bare, "\\bSystem\\.(\\w+)", "arraycopy");
        only(bare, "\\bArrays\\.(\\w+)", "fill");
        only(bare, "\\bMath\\.(\\w+)", "abs", "max", "min");
        only(bare, "\\bInteger\\.(\\w+)", "bitCount");
        Matcher m = Pattern.compile("(?m)^( {4}| {8})(?! )[\\w\\[\\] ]+ (\\w+)\\([^)]*\\) \\{$([\\s\\S]*?)^\\1\\}$").matcher(bare);
        int methods = 0;
        while (m.find()) {
            methods++;
            is(m.group(2) + " has at most sixty lines", m.group(3).split("\n").length <= 60);
        }
        is("methods were found", methods > 100);
    }

    private static void only(String source, String pattern, String... allowed) {
        Matcher m = Pattern.compile(pattern).matcher(source);
        while (m.find()) {
            is(m.group() + " is of the library that may be used", Set.of(allowed).contains(m.group(1)));
        }
    }
}
