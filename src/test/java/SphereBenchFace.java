import java.lang.reflect.Constructor;
import java.lang.reflect.Field;
import java.lang.reflect.Member;
import java.lang.reflect.Method;
import java.lang.reflect.Modifier;
import java.nio.file.Files;
import java.nio.file.Path;
import java.util.Set;
import java.util.TreeSet;
import java.util.regex.Matcher;
import java.util.regex.Pattern;

/** The document's public face, and those rules of LANGUAGE.md that can be seen from outside or in the text. */
public final class SphereBenchFace {
    private static final String[] FACE = {
        "public static final int NONE",
        "public SphereBench()",
        "public boolean sheet(int)",
        "public boolean cell(int,int,int)",
        "public int cellOf(int,int)",
        "public int take()",
        "public int table(int,int,int)",
        "public long about(int,int)",
        "public int rows(int,int)",
        "public int theta(int,int)",
        "public int row(int,int)",
        "public long size(int)",
        "public int reduce(int)",
        "public int same(int,int)",
        "public int way(int,int)",
        "public long wayWorth()",
        "public int dual(int)",
        "public int sum(int,int)",
        "public int scale(int,int)",
        "public int within(int)",
        "public long index()",
        "public int denser(int,int)",
        "public int nearest(int,int,int,int,int,int)",
        "public int told(int)",
    };
    private static final String[] FORBIDDEN = {"throw", "try", "catch", "synchronized", "assert", "import", "package",
        "native", "volatile", "transient", "double", "float", "Exact", "->", "::", "protected"};

    private static int wrong = 0;

    public static void main(String[] args) throws Exception {
        faceIsTheDocuments();
        innerClassesKeepToTheRules();
        textKeepsToTheRules(Files.readString(Path.of("src/main/java/SphereBench.java")));
        callsMakeNoObjects();
        System.out.println(wrong == 0 ? "the face and the rules are kept" : wrong + " faults of face or rules");
        if (wrong != 0) {
            System.exit(1);
        }
    }

    private static void fault(String what) {
        wrong++;
        System.out.println(what);
    }

    private static void faceIsTheDocuments() {
        Set<String> face = new TreeSet<>();
        for (Field f : SphereBench.class.getDeclaredFields()) {
            note(face, f, f.toString().replace("SphereBench.", ""));
        }
        for (Constructor<?> c : SphereBench.class.getDeclaredConstructors()) {
            note(face, c, c.toString());
        }
        for (Method m : SphereBench.class.getDeclaredMethods()) {
            note(face, m, m.toString().replace("SphereBench.", ""));
        }
        Set<String> due = new TreeSet<>(Set.of(FACE));
        if (!face.equals(due)) {
            fault("the face is " + face + ", due is " + due);
        }
        int kind = SphereBench.class.getModifiers();
        if (!Modifier.isFinal(kind) || !Modifier.isPublic(kind)) {
            fault("the class isn't public and final");
        }
    }

    private static void note(Set<String> face, Member member, String text) {
        if (!Modifier.isPrivate(member.getModifiers()) && !member.isSynthetic()) {
            face.add(text);
        }
    }

    private static void innerClassesKeepToTheRules() {
        Class<?>[] inner = SphereBench.class.getDeclaredClasses();
        if (inner.length > 11) {
            fault("there are too many classes: " + inner.length);
        }
        Set<String> names = new TreeSet<>();
        for (Method m : SphereBench.class.getDeclaredMethods()) {
            if (Modifier.isPublic(m.getModifiers())) {
                names.add(m.getName());
            }
        }
        fieldsKeepToTheRules(SphereBench.class);
        for (Class<?> c : inner) {
            if (!Modifier.isStatic(c.getModifiers())) {
                fault(c + " isn't static");
            }
            fieldsKeepToTheRules(c);
            for (Method m : c.getDeclaredMethods()) {
                if (names.contains(m.getName())) {
                    fault(m + " bears a public name");
                }
            }
        }
        for (Method m : SphereBench.class.getDeclaredMethods()) {
            if (Modifier.isPrivate(m.getModifiers()) && names.contains(m.getName())) {
                fault(m + " bears a public name");
            }
            if (m.getParameterCount() > 7) {
                fault(m + " takes too many parameters");
            }
        }
    }

    private static void fieldsKeepToTheRules(Class<?> c) {
        int own = 0;
        for (Field f : c.getDeclaredFields()) {
            if (!Modifier.isStatic(f.getModifiers())) {
                own++;
            } else if (!Modifier.isFinal(f.getModifiers())) {
                fault(f + " is static and not final");
            }
        }
        if (own > 20) {
            fault(c + " has too many fields: " + own);
        }
    }

    private static void textKeepsToTheRules(String text) {
        String code = text.replaceAll("(?s)/\\*.*?\\*/", "").replaceAll("//.*", "");
        for (String word : FORBIDDEN) {
            String pattern = word.matches("[a-z]+") ? "\\b" + word + "\\b" : Pattern.quote(word);
            Matcher m = Pattern.compile(pattern).matcher(code);
            if (m.find()) {
                fault("the text has '" + word + "'");
            }
        }
        String[] lines = text.split("\n");
        int start = -1;
        for (int i = 0; i < lines.length; i++) {
            if (lines[i].matches(" {4,8}[a-zA-Z].*\\) \\{")) {
                start = i;
            } else if (lines[i].matches(" {4,8}\\}") && start >= 0) {
                if (i - start > 60) {
                    fault("too long a method: " + lines[start].trim());
                }
                start = -1;
            }
        }
    }

    /** Calls are answered out of what the constructor made: a run has room for few objects. */
    private static void callsMakeNoObjects() {
        com.sun.management.ThreadMXBean threads =
            (com.sun.management.ThreadMXBean) java.lang.management.ManagementFactory.getThreadMXBean();
        SphereBench x = new SphereBench();
        long used = 0;
        for (int time = 0; time < 3; time++) {
            x = new SphereBench();
            long before = threads.getThreadAllocatedBytes(Thread.currentThread().getId());
            useAll(x);
            used = threads.getThreadAllocatedBytes(Thread.currentThread().getId()) - before;
        }
        if (used > 4096) {
            fault("calls made objects of " + used + " bytes");
        }
    }

    private static void useAll(SphereBench x) {
        x.sheet(4);
        for (int i = 0; i < 4; i++) {
            x.cell(i, i, 2);
            if (i != 1) {
                x.cell(i, 1, -1);
                x.cell(1, i, -1);
            }
        }
        x.take();
        for (int what = 0; what < 7; what++) {
            x.about(0, what);
        }
        x.dual(0);
        x.scale(0, 2);
        x.within(0);
        x.sheet(1);
        x.cell(0, 0, 1);
        x.take();
        x.sum(4, 4);
        x.reduce(3);
        x.same(0, 6);
        x.denser(0, 1);
        x.theta(0, 12);
        x.rows(0, 18);
        x.row(3, 3);
        x.size(3);
        x.nearest(0, 7, 1, 2, 3, 4);
        x.way(0, 0);
        x.wayWorth();
        x.index();
        x.told(0);
    }
}
