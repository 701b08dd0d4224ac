import java.io.IOException;
import java.lang.reflect.Constructor;
import java.lang.reflect.Field;
import java.lang.reflect.Method;
import java.lang.reflect.Modifier;
import java.nio.file.Files;
import java.nio.file.Path;
import java.util.Set;
import java.util.TreeSet;
import java.util.regex.Pattern;

/** The public face, some rules of LANGUAGE.md that can be seen from outside, and calls beyond the 512th. */
public final class FaceTest {
    private static final Checks checks = new Checks();
    private static final int[] WILD = {Integer.MIN_VALUE, -1, 0, 1, 2, 3, 4, 7, 8, 23, 24, 1000, Integer.MAX_VALUE};

    public static void main(String[] args) throws IOException {
        constantsAreAsDue();
        faceIsAsDue();
        privateNamesAreTheirOwn();
        sourceKeepsToTheLanguage();
        objectsAreApart();
        everyChangeOf512CallsIsTaken();
        laterChangesTakeNothingMore();
        noCallEverThrows();
        checks.end();
    }

    private static void constantsAreAsDue() {
        checks.about("constants");
        checks.due("DONE", PastTree.DONE, 0);
        checks.due("REFUSED", PastTree.REFUSED, -1);
        checks.due("FULL", PastTree.FULL, -2);
        checks.due("NONE", PastTree.NONE, -1000000000000L);
        checks.due("LOST", PastTree.LOST, -2000000000000L);
    }

    private static Set<String> face() {
        Set<String> found = new TreeSet<>();
        for (Method m : PastTree.class.getDeclaredMethods()) {
            if (!Modifier.isPrivate(m.getModifiers())) {
                found.add(m.toString().replace("PastTree.", ""));
            }
        }
        for (Constructor<?> c : PastTree.class.getDeclaredConstructors()) {
            found.add(c.toString());
        }
        for (Field f : PastTree.class.getDeclaredFields()) {
            if (!Modifier.isPrivate(f.getModifiers())) {
                found.add(f.toString().replace("PastTree.", ""));
            }
        }
        return found;
    }

    private static void faceIsAsDue() {
        checks.about("face");
        Set<String> due = new TreeSet<>(Set.of(
            "public PastTree(int,int)",
            "public static final int DONE", "public static final int REFUSED", "public static final int FULL",
            "public static final long NONE", "public static final long LOST",
            "public int tick(int)", "public int make(int,int,boolean)", "public int remove(int,int)",
            "public int move(int,int,int,int)", "public int write(int,int,int)", "public int turnBack(int,int)",
            "public int putBack(int,int,int)", "public int look(int,int,int)", "public int next(int,int,int)",
            "public long read(int,int,int)", "public int below(int,int)", "public int thin(int)",
            "public int sync()", "public int crash()", "public int node(int,int)",
            "public int versionTime(int,int)", "public int count(int)"));
        Set<String> found = face();
        checks.due("members " + found, found.equals(due) ? 1 : 0, 1);
        checks.due("modifiers", PastTree.class.getModifiers(), Modifier.PUBLIC | Modifier.FINAL);
    }

    private static void privateNamesAreTheirOwn() {
        checks.about("private names");
        Set<String> open = new TreeSet<>();
        for (Method m : PastTree.class.getMethods()) {
            open.add(m.getName());
        }
        for (Method m : PastTree.class.getDeclaredMethods()) {
            if (Modifier.isPrivate(m.getModifiers())) {
                checks.due(m.getName(), open.contains(m.getName()) ? 1 : 0, 0);
            }
        }
    }

    private static void sourceKeepsToTheLanguage() throws IOException {
        checks.about("LANGUAGE.md");
        String source = Files.readString(Path.of("src/main/java/PastTree.java"));
        String code = source.replaceAll("(?s)/\\*.*?\\*/", "").replaceAll("//.*", "");
        String[] ruledOut = {"\\bthrow\\b", "\\btry\\b", "\\bcatch\\b", "\\bsynchronized\\b", "\\bassert\\b", "->", "::",
            "\\bpackage\\b", "\\bimport\\b", "\\bprotected\\b", "Exact\\b", "\\bSystem\\.(?!arraycopy)", "@"};
        for (String one : ruledOut) {
            checks.due(one, Pattern.compile(one).matcher(code).find() ? 1 : 0, 0);
        }
        checks.due("characters above 127", source.chars().filter(c -> c > 127).count(), 0);
    }

    private static void objectsAreApart() {
        checks.about("two objects");
        PastTree one = new PastTree(0, 1);
        PastTree other = new PastTree(1000, 0);
        one.make(0, 0, false);
        one.tick(1);
        one.write(1, 0, 5);
        one.tick(1);
        checks.due("the other's clock", other.count(0), 0);
        checks.due("the other's nodes", other.count(1), 1);
        checks.due("the other's changes", other.sync(), 0);
        checks.due("the one's are not durable by that", one.count(3), 2);
        checks.due("the one's rule", one.thin(1), 1);
        checks.due("the other's crash", other.crash(), 0);
        checks.due("leaves the one", one.read(2, 1, 0), 5);
    }

    private static void everyChangeOf512CallsIsTaken() {
        checks.about("512 calls");
        PastTree t = new PastTree(0, 0);
        t.make(0, 0, false);
        for (int i = 1; i < 512; i++) {
            checks.due("write", t.write(1, i % 4, i), 1);
        }
        checks.due("all were taken", t.count(2), 512);
        PastTree lost = new PastTree(0, 0);
        for (int i = 0; i < 256; i++) {
            checks.due("make", lost.make(0, 0, i % 2 == 0), 1);
            checks.due("crash", lost.crash(), 1);
        }
        PastTree tall = new PastTree(1000, 1000);
        tall.make(0, 0, false);
        for (int i = 1; i < 256; i++) {
            tall.tick(1000);
            checks.due("write", tall.write(1, 0, i), i + 1);
        }
        checks.due("the 512th call", tall.read(254999, 1, 0), 254);
    }

    /** The document leaves these answers free; rule 12 of LANGUAGE.md asks that what is kept has an end. */
    private static void laterChangesTakeNothingMore() {
        checks.about("after 512 changes");
        PastTree t = new PastTree(0, 0);
        t.make(0, 0, false);
        t.make(0, 1, false);
        t.tick(1);
        t.remove(0, 1);
        for (int i = 3; i < 512; i++) {
            t.write(1, 0, i);
        }
        checks.due("make", t.make(0, 2, true), PastTree.FULL);
        checks.due("remove", t.remove(0, 0), PastTree.FULL);
        checks.due("move", t.move(0, 0, 0, 2), PastTree.FULL);
        checks.due("write", t.write(1, 0, 1), PastTree.FULL);
        checks.due("turnBack", t.turnBack(1, 0), PastTree.FULL);
        checks.due("putBack", t.putBack(0, 1, 0), PastTree.FULL);
        checks.due("count(2)", t.count(2), 512);
        checks.due("crash", t.crash(), 512);
        checks.due("make after the crash", t.make(0, 0, true), PastTree.FULL);
    }

    private static void noCallEverThrows() {
        checks.about("wild calls");
        PastTree t = new PastTree(Integer.MIN_VALUE, Integer.MAX_VALUE);
        for (int round = 0; round < 3; round++) {
            for (int a : WILD) {
                for (int b : WILD) {
                    for (int c : WILD) {
                        wildCalls(t, a, b, c);
                    }
                }
            }
            t.crash();
        }
        checks.due("came to the end", 1, 1);
    }

    private static void wildCalls(PastTree t, int a, int b, int c) {
        t.tick(a);
        t.make(a, b, (c & 1) == 0);
        t.write(a, b, c);
        t.turnBack(a, b);
        t.look(a, b, c);
        t.next(a, b, c);
        t.read(a, b, c);
        t.below(a, b);
        t.move(a, b, c, b);
        t.move(a, b, c, c);
        t.putBack(a, b, c);
        t.node(a, b);
        t.versionTime(a, b);
        t.count(a);
        t.thin(a);
        if (c == 23) {
            t.remove(a, b);
        }
        if (c == 24) {
            t.sync();
        }
    }
}
