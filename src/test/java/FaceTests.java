import java.io.IOException;
import java.lang.reflect.Constructor;
import java.lang.reflect.Field;
import java.lang.reflect.Method;
import java.lang.reflect.Modifier;
import java.nio.file.Files;
import java.nio.file.Path;
import java.util.ArrayList;
import java.util.List;
import java.util.TreeSet;
import java.util.regex.Matcher;
import java.util.regex.Pattern;

/** The document's face, and what of LANGUAGE.md can be seen by looking at the class and its source. */
public final class FaceTests {
    private static final String[] FACE = {
        "int row(int,int)", "int lay(int,int,int)", "int at(int,int)", "int tear(int)", "int copy(int,int,int,int,int)",
        "int mean(int)", "int text(int,int)", "int put(int,int,int)", "int fault(int)", "int board(int)",
        "int drum(int,int)", "int mark(int,int)", "int tick()", "int aim(int,int)", "int power(int)", "int jam(int)",
        "int undo(int)", "int keep(int)", "int on(int)", "int later(int)", "int ends()", "int passes()", "int least()",
        "int soonest(int)", "int order(int,int)", "int kinds(int,int)", "int marks(int,int)", "int test(int,int)",
        "int duel(int)", "int odds(int,int,int)", "int mid(int,int)", "int lots(int,int)", "int asked()",
        "long upper()", "long lower()", "int count(int)", "int finding()", "int findings(int)", "long digest()"};

    public static void main(String[] args) throws IOException {
        constants();
        methods();
        membersWithin();
        source(Files.readString(Path.of(args.length > 0 ? args[0] : ".", "src/main/java/FlapBoard.java")));
        Check.end("FaceTests");
    }

    private static void constants() {
        Check.due("BAD", FlapBoard.BAD, -1);
        Check.due("FULL", FlapBoard.FULL, -2);
        Check.due("FINDING", FlapBoard.FINDING, -3);
        Check.due("STATE", FlapBoard.STATE, -4);
        Check.due("SPENT", FlapBoard.SPENT, -6);
        Check.due("NONE", FlapBoard.NONE, -9);
        TreeSet<String> visible = new TreeSet<>();
        for (Field f : FlapBoard.class.getDeclaredFields()) {
            if (!Modifier.isPrivate(f.getModifiers())) {
                visible.add(Modifier.toString(f.getModifiers()) + " " + f.getName());
            }
        }
        TreeSet<String> due = new TreeSet<>();
        for (String name : new String[] {"BAD", "FULL", "FINDING", "STATE", "SPENT", "NONE"}) {
            due.add("public static final " + name);
        }
        Check.alike("visible fields", visible, due);
    }

    private static void methods() {
        TreeSet<String> visible = new TreeSet<>();
        for (Method m : FlapBoard.class.getDeclaredMethods()) {
            if (!Modifier.isPrivate(m.getModifiers()) && !m.isSynthetic()) {
                StringBuilder told = new StringBuilder(m.getReturnType() + " " + m.getName() + "(");
                for (Class<?> type : m.getParameterTypes()) {
                    told.append(told.charAt(told.length() - 1) == '(' ? "" : ",").append(type);
                }
                visible.add(told.append(")").toString());
                Check.alike(m.getName() + " is public alone", Modifier.toString(m.getModifiers()), "public");
            }
        }
        Check.alike("visible methods", visible, new TreeSet<>(List.of(FACE)));
        Constructor<?>[] made = FlapBoard.class.getDeclaredConstructors();
        Check.due("constructors", made.length, 1);
        Check.due("its parameters", made[0].getParameterCount(), 0);
        Check.holds("it is public", Modifier.isPublic(made[0].getModifiers()));
        Check.alike("the class", Modifier.toString(FlapBoard.class.getModifiers()), "public final");
    }

    private static void membersWithin() {
        TreeSet<String> names = new TreeSet<>();
        for (String call : FACE) {
            names.add(call.substring(call.indexOf(' ') + 1, call.indexOf('(')));
        }
        List<Class<?>> classes = new ArrayList<>(List.of(FlapBoard.class));
        classes.addAll(List.of(FlapBoard.class.getDeclaredClasses()));
        Check.holds("twelve classes at most: " + classes.size(), classes.size() <= 12);
        for (Class<?> c : classes) {
            int fields = 0;
            for (Field f : c.getDeclaredFields()) {
                boolean isStatic = Modifier.isStatic(f.getModifiers());
                fields += isStatic ? 0 : 1;
                Check.holds(c + ": static " + f.getName() + " is final", !isStatic || Modifier.isFinal(f.getModifiers()));
            }
            Check.holds(c + ": twenty fields at most: " + fields, fields <= 20);
            Check.due(c + ": no class inside that isn't FlapBoard's", c == FlapBoard.class ? 0 : c.getDeclaredClasses().length, 0);
            for (Method m : c.getDeclaredMethods()) {
                Check.holds(c + "." + m.getName() + ": seven parameters at most", m.getParameterCount() <= 7);
                Check.holds(c + "." + m.getName() + " bears no public name",
                    c == FlapBoard.class && Modifier.isPublic(m.getModifiers()) || !names.contains(m.getName()));
            }
            if (c != FlapBoard.class) {
                Check.holds(c + " is static", Modifier.isStatic(c.getModifiers()));
                Check.holds(c + " is not public", !Modifier.isPublic(c.getModifiers()) && !Modifier.isProtected(c.getModifiers()));
            }
        }
    }

    private static void source(String text) {
        String code = text.replaceAll("(?s)/\\*.*?\\*/", "").replaceAll("//[^\n]*", "");
        for (String word : new String[] {"throw", "throws", "try", "catch", "synchronized", "assert", "import", "package",
            "double", "float", "protected", "equals", "hashCode", "toString", "Object", "var", "record", "instanceof"}) {
            Check.holds("no '" + word + "' in the source", !Pattern.compile("\\b" + word + "\\b").matcher(code).find());
        }
        for (String sign : new String[] {"->", "::", "@", "\""}) {
            Check.holds("no '" + sign + "' in the source", !code.contains(sign));
        }
        Check.holds("no static block", !Pattern.compile("static\\s*\\{").matcher(code).find());
        Check.holds("no method of the library beside those allowed", allowedCalls(code));
        methodLengths(text.split("\n"));
    }

    private static boolean allowedCalls(String code) {
        boolean allowed = true;
        Matcher library = Pattern.compile("\\b(System|Math|Integer|Long|Arrays|String|StringBuilder)\\.(\\w+)").matcher(code);
        List<String> list = List.of("System.arraycopy", "Math.max", "Math.min", "Math.floorMod", "Integer.bitCount");
        while (library.find()) {
            if (!list.contains(library.group())) {
                System.out.println("not in the list: " + library.group());
                allowed = false;
            }
        }
        return allowed;
    }

    /** A method begins at a line that ends with ") {" outside of any other, and ends with its brace. */
    private static void methodLengths(String[] lines) {
        Pattern head = Pattern.compile("^( {4}| {8})(?!if|for|while|switch|else)\\w.*\\) \\{$");
        for (int i = 0; i < lines.length; i++) {
            Matcher m = head.matcher(lines[i]);
            if (m.matches()) {
                int end = i;
                while (end < lines.length && !lines[end].equals(m.group(1) + "}")) {
                    end++;
                }
                Check.holds("sixty lines at most from line " + (i + 1), end - i < 60);
            }
        }
    }
}
