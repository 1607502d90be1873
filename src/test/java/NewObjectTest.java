import java.lang.reflect.Constructor;
import java.lang.reflect.Field;
import java.lang.reflect.Method;
import java.lang.reflect.Modifier;
import java.util.TreeSet;

/** Promise 1, and the face: the members that the document names and no others. */
public final class NewObjectTest {
    private static final String[] FACE = {
        "int about(int) IllegalArgumentException",
        "int account(int) IllegalArgumentException",
        "int ahead(int,int,int) IllegalArgumentException",
        "int append(int) IllegalArgumentException IllegalStateException",
        "int bearable(int,int) IllegalArgumentException",
        "int boiler(int,int) IndexOutOfBoundsException IllegalArgumentException",
        "int cheapestPurge(int,int) IllegalArgumentException",
        "int clearText()",
        "int draw(int) IllegalArgumentException",
        "int errorPosition()",
        "int flue(int,int) IndexOutOfBoundsException IllegalArgumentException",
        "int layer(int) IndexOutOfBoundsException",
        "int load() IllegalStateException",
        "int lock(int) IndexOutOfBoundsException IllegalStateException",
        "int next()",
        "int putOff(int) IndexOutOfBoundsException IllegalStateException",
        "int restore(int) IndexOutOfBoundsException IllegalStateException",
        "int runScript(int,long) IllegalArgumentException",
        "int save(int) IndexOutOfBoundsException",
        "int set(int,int) IllegalArgumentException",
        "int setDraft(int,int) IndexOutOfBoundsException IllegalArgumentException",
        "int setFlue(int,boolean) IndexOutOfBoundsException",
        "int simulate(long,int) IllegalArgumentException",
        "int smallestSet(int,boolean) IllegalArgumentException",
        "int tick(int,int) IllegalArgumentException",
        "int undo() IllegalStateException",
        "int unlock(int) IndexOutOfBoundsException IllegalStateException",
        "int warmAfter(int,int) IllegalArgumentException",
        "int whyNot(int) IndexOutOfBoundsException",
    };

    public static void main(String[] args) {
        newObject();
        twoObjectsAreApart();
        face();
        Check.end("NewObjectTest");
    }

    private static void newObject() {
        BoilerCascade x = new BoilerCascade();
        Check.due("NONE", BoilerCascade.NONE, -9);
        int[] about = {60, 3, 2, 70, 2, 2, 1, 4, 0, 40, 0, 0, 0, 0, 0, 0, 0};
        for (int what = 0; what < about.length; what++) {
            Check.due("about(" + what + ")", x.about(what), about[what]);
        }
        int[] boiler = {10, 0, 0, 0, 0, 0, 0, 1};
        for (int what = 0; what < boiler.length; what++) {
            Check.due("boiler(0, " + what + ")", x.boiler(0, what), boiler[what]);
        }
        int[][] flues = {{50, 0, 1, 1}, {50, 0, 1, 0}};
        for (int f = 0; f < 2; f++) {
            for (int what = 0; what < 4; what++) {
                Check.due("flue(" + f + ", " + what + ")", x.flue(f, what), flues[f][what]);
            }
        }
        Check.due("layers", Check.layers(x), "40 40 40 40");
        for (int what = 0; what <= 5; what++) {
            Check.due("account(" + what + ")", x.account(what), 0);
        }
        Check.due("next()", x.next(), 0);
        Check.due("errorPosition()", x.errorPosition(), 0);
        Check.due("clearText()", x.clearText(), 0);
        Check.badState("undo()", () -> x.undo());
        Check.badState("restore(0)", () -> x.restore(0));
        Check.badState("restore(1)", () -> x.restore(1));
        Check.badState("load()", () -> x.load());
    }

    private static void twoObjectsAreApart() {
        BoilerCascade x = new BoilerCascade();
        BoilerCascade y = new BoilerCascade();
        x.tick(5, 1);
        x.append('H');
        x.save(0);
        Check.due("the other object", Check.picture(y), Check.picture(new BoilerCascade()));
        Check.badState("the other object's restore(0)", () -> y.restore(0));
    }

    private static void face() {
        TreeSet<String> due = new TreeSet<>(java.util.List.of(FACE));
        TreeSet<String> found = new TreeSet<>();
        TreeSet<String> hidden = new TreeSet<>();
        TreeSet<String> names = new TreeSet<>();
        for (Method m : BoilerCascade.class.getDeclaredMethods()) {
            if (Modifier.isPrivate(m.getModifiers())) {
                hidden.add(m.getName());
            } else {
                names.add(m.getName());
                found.add(described(m));
            }
        }
        Check.due("the methods", found.toString(), due.toString());
        for (Class<?> inside : BoilerCascade.class.getDeclaredClasses()) {
            Check.due(inside + " is public", Modifier.isPublic(inside.getModifiers()) ? 1 : 0, 0);
            Check.due(inside + " is static", Modifier.isStatic(inside.getModifiers()) ? 1 : 0, 1);
            for (Method m : inside.getDeclaredMethods()) {
                hidden.add(m.getName());
            }
        }
        hidden.retainAll(names);
        Check.due("inner methods with a name of the face", hidden.toString(), "[]");
        for (Field f : BoilerCascade.class.getDeclaredFields()) {
            boolean isPrivate = Modifier.isPrivate(f.getModifiers());
            Check.due(f + " is private", isPrivate || f.getName().equals("NONE") ? 1 : 0, 1);
        }
        Constructor<?>[] constructors = BoilerCascade.class.getDeclaredConstructors();
        Check.due("constructors", constructors.length, 1);
        Check.due("the constructor", constructors[0].toString(), "public BoilerCascade()");
        Check.due("the class", BoilerCascade.class.toGenericString(), "public final class BoilerCascade");
    }

    private static String described(Method m) {
        StringBuilder s = new StringBuilder();
        s.append(Modifier.toString(m.getModifiers()).replace("public", ""));
        s.append(m.getReturnType()).append(' ').append(m.getName()).append('(');
        for (int k = 0; k < m.getParameterCount(); k++) {
            s.append(k == 0 ? "" : ",").append(m.getParameterTypes()[k]);
        }
        s.append(')');
        for (Class<?> e : m.getExceptionTypes()) {
            s.append(' ').append(e.getSimpleName());
        }
        return s.toString();
    }
}
