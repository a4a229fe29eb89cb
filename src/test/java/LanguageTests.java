import java.io.IOException;
import java.nio.file.Files;
import java.nio.file.Path;
import java.util.List;

/** The rules of LANGUAGE.md in FlapBoard's source, as LanguageRules sees them; and that it does see breaches. */
public final class LanguageTests {
    public static void main(String[] args) throws IOException {
        String source = Files.readString(Path.of(args.length > 0 ? args[0] : ".", "src/main/java/FlapBoard.java"));
        Check.alike("breaches", LanguageRules.breachesOf(source), List.of());
        Check.holds("no package line", !source.contains("\npackage ") && !source.startsWith("package "));
        Check.holds("signs 1 to 126 alone", source.chars().allMatch(c -> c > 0 && c < 127));
        Check.alike("breaches of a plain class", LanguageRules.breachesOf(inside("")), List.of());
        faceAndClasses();
        typesAndLibrary();
        refusedWords();
        calls();
        loopsAndObjects();
        Check.end("LanguageTests");
    }

    private static String inside(String member) {
        return "public final class FlapBoard {\n"
            + "private final int[] ints = new int[3];\n"
            + "public int open(int n) { return n <= 0 ? 0 : 7 / n; }\n"
            + member + "\n}\n";
    }

    /** The member alone breaks the rule; the source is one that can be compiled. */
    private static void breaks(int rule, String member) throws IOException {
        breaksAs(rule, inside(member));
    }

    private static void breaksAs(int rule, String source) throws IOException {
        List<String> breaches = LanguageRules.breachesOf(source);
        Check.holds("rule " + rule + " is seen to be broken by " + source + ": " + breaches,
            !breaches.isEmpty() && breaches.stream().allMatch(b -> b.startsWith("rule " + rule + ",")));
    }

    private static void keeps(String member) throws IOException {
        Check.alike("breaches of " + member, LanguageRules.breachesOf(inside(member)), List.of());
    }

    private static void faceAndClasses() throws IOException {
        breaksAs(1, "public class FlapBoard { }");
        breaks(1, "private int open() { return 1; }");
        breaks(1, "private static final class Part { int open() { return 1; } }");
        breaks(1, "public static final class Part { }");
        keeps("private static final class Part { int shut() { return 1; } }");
        breaks(2, "private final class Part { }");
        breaks(2, "interface Part { int one(); } Part part() { return () -> 1; }");
        breaks(2, "interface Part { int one(); } static int one() { return 1; } Part part() { return FlapBoard::one; }");
        breaks(2, "interface Part { } Part part() { return new Part() { }; }");
        breaks(2, "int part() { class Part { } return 1; }");
    }

    private static void typesAndLibrary() throws IOException {
        breaks(3, "private Object part = null;");
        breaks(3, "private int[][][] part = null;");
        breaks(3, "private FlapBoard[][] part = null;");
        breaks(3, "private double part() { return 1; }");
        breaks(3, "private int part() { return (int) ((float) 1); }");
        keeps("private final int[][] part = new int[2][3]; private final String name = \"part\";");
        breaks(4, "private int part() { return Integer.parseInt(\"1\"); }");
        breaks(4, "private int part() { return Math.addExact(1, 1); }");
        breaks(4, "private long part() { return System.nanoTime(); }");
        breaks(4, "private int part() { return ints.hashCode(); }");
        breaksAs(4, "import java.util.Random;\n" + inside(""));
        keeps("private int part() { return Math.floorMod(ints.clone()[0], 3) + \"ab\".charAt(0); }");
        breaks(5, "private static int part;");
        breaks(5, "private static final int[] PART = new int[3];");
        breaks(5, "private static final FlapBoard PART = null;");
        breaks(5, "private static final int[] PART = {1}; void part() { PART[0] = 2; }");
        breaks(5, "private static final int[] PART = {1}; void part() { PART[0]++; }");
        breaks(5, "private static final int[] PART = {1}; void part() { PART[0] |= 2; }");
        breaks(5, "static { int part = 1; }");
        keeps("private static final int[] PART = {1, 2}; private static final long MORE = 3L * 5;");
    }

    private static void refusedWords() throws IOException {
        breaks(6, "private void part() { throw null; }");
        breaks(6, "private int part() { try { return 1; } finally { ints[0] = 1; } }");
        breaks(6, "private int part() { synchronized (this) { return 1; } }");
        breaks(6, "private synchronized int part() { return 1; }");
        breaks(6, "private int part() { assert true; return 1; }");
        breaks(6, "interface Part { } private static final class Own implements Part { } private Own part(Part p) { return (Own) p; }");
        breaks(6, "private boolean part(String a, String b) { return a == b; }");
        breaks(7, "private int part(int n) { return 7 / n; }");
        breaks(7, "private int part(int n) { int m = 7 % n; return n == 0 ? 0 : m; }");
        breaks(7, "private int part(int n) { int m = 7; m /= n; return m; }");
        keeps("private int part(int n) { return n != 0 ? 7 % n : 0; }");
        breaks(10, "private String part(String a) { return a + 1; }");
        breaks(10, "private String part(String a) { String b = a; b += a; return b; }");
    }

    private static void calls() throws IOException {
        breaks(8, "int part(int n) { return n <= 0 ? 0 : part(n - 1); }");
        breaks(8, "private int part() { return ints[0] == 0 ? 0 : part(); }");
        keeps("private int part(int n) { return n <= 0 ? 0 : part(n - 1); }");
        breaks(11, "private int part(int a, int b, int c, int d, int e, int f, int g, int h) { return 1; }");
        keeps("private int part(int a, int b, int c, int d, int e, int f, int g) { return 1; }");
        breaks(11, "private int part() {" + "\n".repeat(60) + "return 1; }");
        keeps("private int part() {" + "\n".repeat(59) + "return 1; }");
        breaks(11, chain(9));
        keeps(chain(8));
        breaks(11, "private static final class Part { int a" + others(20) + "; }");
        keeps("private static final class Part { int a" + others(19) + "; }");
        breaks(11, parts(12));
        keeps(parts(11));
    }

    /** So many methods, each calling the next one. */
    private static String chain(int n) {
        StringBuilder all = new StringBuilder();
        for (int i = 1; i <= n; i++) {
            all.append("private int p" + i + "() { return " + (i < n ? "p" + (i + 1) + "()" : "1") + "; }\n");
        }
        return all.toString();
    }

    private static String others(int n) {
        StringBuilder all = new StringBuilder();
        for (int i = 0; i < n; i++) {
            all.append(", a").append(i);
        }
        return all.toString();
    }

    private static String parts(int n) {
        StringBuilder all = new StringBuilder();
        for (int i = 0; i < n; i++) {
            all.append("private static final class P" + i + " { }\n");
        }
        return all.toString();
    }

    private static void loopsAndObjects() throws IOException {
        breaks(9, "private void part() { for (;;) { ints[0]++; } }");
        breaks(9, "private void part() { while (true) { ints[0]++; } }");
        breaks(9, "private void part() { while (ints[0] != 3) { ints[0]++; } }");
        breaks(9, "private void part() { while (ints[0] < 3 || ints[1] == 0) { ints[0]++; } }");
        breaks(9, "private void part() { do { ints[0]++; } while (ints[0] != 3); }");
        keeps("private void part() { int n = 0; while (n < 3 && ints[0] != 3) { n++; } }");
        keeps("private void part() { int n = 0; do { n++; } while (n < 3); }");
        breaks(12, "private void part() { int n = 0; while (n < 3) { int[] m = new int[3]; n++; } }");
        breaks(12, "private static class Part { Part() { go(); } void go() { } }");
        breaks(12, "private static final class Part { final Part self; Part() { self = this; } }");
        breaks(12, "private static final class Part { static void go(Part p) { } Part() { go(this); } }");
        keeps("private static final class Part { int n; Part() { this.n = 3; } }");
    }
}
