import java.lang.reflect.Constructor;
import java.lang.reflect.Field;
import java.lang.reflect.Method;
import java.lang.reflect.Modifier;
import java.util.List;
import java.util.TreeSet;

/** The document's face: its members, and that no other one can be seen from outside. */
public final class FaceTests {
    private static final String[] FACE = {
        "int row(int,int)", "int lay(int,int,int)", "int at(int,int)", "int tear(int)", "int copy(int,int,int,int,int)",
        "int mean(int)", "int text(int,int)", "int put(int,int,int)", "int fault(int)", "int board(int)",
        "int drum(int,int)", "int mark(int,int)", "int tick()", "int aim(int,int)", "int power(int)", "int jam(int)",
        "int undo(int)", "int keep(int)", "int on(int)", "int later(int)", "int ends()", "int passes()", "int least()",
        "int soonest(int)", "int order(int,int)", "int kinds(int,int)", "int marks(int,int)", "int test(int,int)",
        "int duel(int)", "int odds(int,int,int)", "int mid(int,int)", "int lots(int,int)", "int asked()",
        "long upper()", "long lower()", "int count(int)", "int finding()", "int findings(int)", "long digest()"};

    public static void main(String[] args) {
        constants();
        methods();
        Check.end("FaceTests");
    }

    private static void constants() {
        Check.due("BAD", FlapBoard.BAD, -1);
        Check.due("FULL", FlapBoard.FULL, -2);
        Check.due("FINDING", FlapBoard.FINDING, -3);
        Check.due("STATE", FlapBoard.STATE, -4);
        Check.due("SPENT", FlapBoard.SPENT, -6);
        Check.due("NONE", FlapBoard.NONE, -9);
        TreeSet<String> visible = new TreeSet<>();
        for (Field f : FlapBoard.class.getDeclaredFields()) {
            if (!Modifier.isPrivate(f.getModifiers())) {
                visible.add(Modifier.toString(f.getModifiers()) + " " + f.getName());
            }
        }
        TreeSet<String> due = new TreeSet<>();
        for (String name : new String[] {"BAD", "FULL", "FINDING", "STATE", "SPENT", "NONE"}) {
            due.add("public static final " + name);
        }
        Check.alike("visible fields", visible, due);
    }

    private static void methods() {
        TreeSet<String> visible = new TreeSet<>();
        for (Method m : FlapBoard.class.getDeclaredMethods()) {
            if (!Modifier.isPrivate(m.getModifiers()) && !m.isSynthetic()) {
                StringBuilder told = new StringBuilder(m.getReturnType() + " " + m.getName() + "(");
                for (Class<?> type : m.getParameterTypes()) {
                    told.append(told.charAt(told.length() - 1) == '(' ? "" : ",").append(type);
                }
                visible.add(told.append(")").toString());
                Check.alike(m.getName() + " is public alone", Modifier.toString(m.getModifiers()), "public");
            }
        }
        Check.alike("visible methods", visible, new TreeSet<>(List.of(FACE)));
        Constructor<?>[] made = FlapBoard.class.getDeclaredConstructors();
        Check.due("constructors", made.length, 1);
        Check.due("its parameters", made[0].getParameterCount(), 0);
        Check.holds("it is public", Modifier.isPublic(made[0].getModifiers()));
        Check.alike("the class", Modifier.toString(FlapBoard.class.getModifiers()), "public final");
    }
}
