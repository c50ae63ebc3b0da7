import java.lang.management.ManagementFactory;
import java.lang.reflect.Constructor;
import java.lang.reflect.Field;
import java.lang.reflect.Method;
import java.lang.reflect.Modifier;
import java.nio.charset.StandardCharsets;
import java.nio.file.Files;
import java.nio.file.Path;
import java.util.ArrayList;
import java.util.Arrays;
import java.util.List;
import java.util.Set;
import java.util.TreeSet;
import java.util.regex.Matcher;
import java.util.regex.Pattern;

/** What of LANGUAGE.md can be looked at from outside: the face, the words, the sizes, and the room of a run. */
public final class RoadsCrossedForm {
    private static final String FACE =
        "post 2, postTold 2, move 3, layer 2, road 3, told 2, as 2, turns 2, set 3, drop 1, cross 2, straight 1, bound 0, would 2, "
        + "best 1, swaps 1, line 1, at 1, book 1, pages 1, bestLine 1, layers 1, bestRow 2, deal 2, seed 1, feed 3, trim 1, text 0, "
        + "textTold 2, why 1, sheet 3, mark 3, pour 1, copy 5, lay 3, ask 2, item 2, rest 2, tell 1, check 1, keep 0, back 0, count 1";

    private static int wrong = 0;

    public static void main(String[] args) throws Exception {
        Path file = Path.of("src/main/java/RoadsCrossed.java");
        String source = Files.readString(file, StandardCharsets.UTF_8);
        String bare = withoutTexts(source);
        face();
        members();
        words(source, bare);
        methodLengths(bare);
        room();
        System.out.println(wrong == 0 ? "the form is as it must be" : wrong + " faults of form");
        if (wrong != 0) {
            System.exit(1);
        }
    }

    private static void must(boolean holds, String what) {
        if (!holds) {
            wrong++;
            System.out.println("not so: " + what);
        }
    }

    private static void face() {
        Class<?> c = RoadsCrossed.class;
        must(Modifier.isPublic(c.getModifiers()) && Modifier.isFinal(c.getModifiers()), "the class is public and final");
        Set<String> due = new TreeSet<>(Arrays.asList(FACE.split(", ")));
        Set<String> open = new TreeSet<>();
        Set<String> hidden = new TreeSet<>();
        for (Method m : c.getDeclaredMethods()) {
            if (!Modifier.isPrivate(m.getModifiers())) {
                open.add(m.getName() + " " + m.getParameterCount());
                must(m.getReturnType() == int.class && Modifier.isPublic(m.getModifiers()), m.getName() + " is public and answers an int");
                for (Class<?> p : m.getParameterTypes()) {
                    must(p == int.class, m.getName() + " takes ints");
                }
            } else {
                hidden.add(m.getName());
            }
        }
        must(open.equals(due), "the face is " + due + ", but was " + open);
        for (Class<?> inner : c.getDeclaredClasses()) {
            for (Method m : inner.getDeclaredMethods()) {
                hidden.add(m.getName());
            }
        }
        for (String name : hidden) {
            must(!(", " + FACE).contains(", " + name + " "), "no other method bears the name of " + name);
        }
        Constructor<?>[] made = c.getDeclaredConstructors();
        must(made.length == 1 && made[0].getParameterCount() == 0 && Modifier.isPublic(made[0].getModifiers()), "one public constructor");
        Set<String> constants = new TreeSet<>();
        for (Field f : c.getDeclaredFields()) {
            if (!Modifier.isPrivate(f.getModifiers())) {
                constants.add(f.getName());
            }
        }
        must(constants.equals(new TreeSet<>(Arrays.asList("BAD", "NO", "FULL", "NONE", "NOTHING", "KIND", "INDEX", "SIZE"))), "constants: " + constants);
    }

    private static void members() {
        List<Class<?>> all = new ArrayList<>(Arrays.asList(RoadsCrossed.class.getDeclaredClasses()));
        all.add(RoadsCrossed.class);
        must(all.size() <= 12, "twelve classes at most");
        for (Class<?> c : all) {
            int own = 0;
            for (Field f : c.getDeclaredFields()) {
                boolean fixed = Modifier.isStatic(f.getModifiers());
                own += fixed ? 0 : 1;
                must(!fixed || Modifier.isFinal(f.getModifiers()), f + " is final");
                must(f.getType() != float.class && f.getType() != double.class, f + " is no float");
            }
            must(own <= 20, c + " has twenty fields at most");
            must(c == RoadsCrossed.class || Modifier.isStatic(c.getModifiers()), c + " is static");
            for (Method m : c.getDeclaredMethods()) {
                must(m.getParameterCount() <= 7, m + " takes seven at most");
                must(!m.isSynthetic(), m + " is written out");
            }
        }
    }

    private static void words(String source, String bare) {
        for (int i = 0; i < source.length(); i++) {
            must(source.charAt(i) < 128, "each sign of the source is below 128");
        }
        Matcher imports = Pattern.compile("import\\s+([^;]+);").matcher(bare);
        while (imports.find()) {
            must(imports.group(1).equals("java.util.Arrays"), "import " + imports.group(1));
        }
        String[] barred = {"throw", "throws", "try", "catch", "finally", "synchronized", "assert", "package", "native", "volatile",
            "transient", "double", "float", "System\\.(?!arraycopy)", "Math\\.\\w*Exact", "equals", "hashCode", "toString", "random", "Thread"};
        for (String word : barred) {
            must(!Pattern.compile("\\b" + word + (word.endsWith(")") ? "" : "\\b")).matcher(bare).find(), "no " + word);
        }
        must(!bare.contains("->") && !bare.contains("::"), "no lambda, no method reference");
        must(!bare.contains("static {"), "no static block");
        must(!bare.contains("new Object"), "no plain object");
        must(!Pattern.compile("while\\s*\\(\\s*true|for\\s*\\([^;]*;\\s*;").matcher(bare).find(), "each loop has an end");
    }

    /** Texts, signs and comments as blanks, so that words in them do not count. */
    private static String withoutTexts(String source) {
        Matcher m = Pattern.compile("/\\*.*?\\*/|//[^\\n]*|\"(?:[^\"\\\\]|\\\\.)*\"|'(?:[^'\\\\]|\\\\.)'", Pattern.DOTALL).matcher(source);
        StringBuilder out = new StringBuilder();
        while (m.find()) {
            m.appendReplacement(out, m.group().replaceAll("[^\\n]", " "));
        }
        m.appendTail(out);
        return out.toString();
    }

    private static void methodLengths(String bare) {
        String[] lines = bare.split("\n");
        for (int i = 0; i < lines.length; i++) {
            must(lines[i].length() <= 260, "line " + (i + 1) + " is short");
            if (!lines[i].matches("\\s+[\\w\\[\\]<>, ]+\\([^;]*\\)\\s*\\{") || lines[i].matches("\\s*(if|for|while|switch|else|do)\\b.*")) {
                continue;
            }
            String close = lines[i].replaceAll("\\S.*", "") + "}";
            int j = i;
            while (j < lines.length && !lines[j].equals(close)) {
                j++;
            }
            must(j - i + 1 <= 60, "the method at line " + (i + 1) + " has sixty lines at most");
        }
    }

    /** A run of the dearest calls makes nothing but the object itself. */
    private static void room() {
        com.sun.management.ThreadMXBean threads = (com.sun.management.ThreadMXBean) ManagementFactory.getThreadMXBean();
        run();
        long before = threads.getThreadAllocatedBytes(Thread.currentThread().getId());
        run();
        long bytes = threads.getThreadAllocatedBytes(Thread.currentThread().getId()) - before;
        must(bytes < 40000, "a run takes little room, but took " + bytes + " bytes");
    }

    private static void run() {
        RoadsCrossed x = new RoadsCrossed();
        x.deal(0, 20);
        x.deal(1, 20);
        x.deal(1, 20);
        for (int i = 0; i < 30; i++) {
            x.feed(0x6861726d, 0x20772a77, 0x2b613c62);
            x.text();
            x.feed(0x63726f73, 0x7320702a, 0x712d2121);
            x.text();
            x.bestLine(-1);
            x.pages(-1);
            x.layer(i % 8, i % 4);
            x.bestRow(i % 4, -1);
            x.keep();
            x.tell(-1);
            x.check(30);
            x.swaps(30);
            x.back();
            x.sheet(i % 4, i % 2, 24);
            x.lay(i % 5, 2, i % 4);
            x.straight(2);
        }
    }
}
