import java.lang.reflect.Constructor;
import java.lang.reflect.Field;
import java.lang.reflect.Method;
import java.lang.reflect.Modifier;
import java.util.Set;
import java.util.TreeSet;

/** The class shows the document's face and nothing else, and no private method bears a public one's name. */
public final class FaceTest {
    private static final Set<String> FACE = Set.of(
            "int give(int,int,int,int)", "boolean shelf(int,int)", "boolean base(int,int)",
            "int feed(long,long,long)", "int text()", "int sort(int,int)", "int says(int,int,int)", "int habit(int)",
            "int weeks(int)", "int price(int)", "int sell(int)", "boolean undo(int)", "boolean lose(int)",
            "int thefts(int,int)", "int worth(int,int)", "int where(int)", "boolean move(int)", "boolean van(int)",
            "boolean way(int,int,int)", "int round(int)", "int helper(int)", "int least(int)", "boolean rate(int)",
            "int relief(int,int)", "int look(int,int)", "int count(int)");

    public static void main(String[] args) {
        Class<?> c = GiftShops.class;
        Check.due("public and final", c.getModifiers(), Modifier.PUBLIC | Modifier.FINAL);
        Set<String> shown = new TreeSet<>();
        Set<String> names = new TreeSet<>();
        for (Method m : c.getDeclaredMethods()) {
            if (!Modifier.isPrivate(m.getModifiers())) {
                Check.due(m + " is public and no more", m.getModifiers(), Modifier.PUBLIC);
                shown.add(told(m));
                names.add(m.getName());
            }
        }
        Check.due("methods " + shown, shown.equals(FACE), true);
        for (Constructor<?> made : c.getDeclaredConstructors()) {
            Check.due(made + " takes nothing", made.getParameterCount(), 0);
        }
        for (Field f : c.getDeclaredFields()) {
            boolean isNone = f.getName().equals("NONE");
            Check.due(f + " is private", Modifier.isPrivate(f.getModifiers()), !isNone);
            Check.due(f + " is no static state", Modifier.isStatic(f.getModifiers()) && !isConstant(f), false);
        }
        privateNames(c, names);
        for (Class<?> inside : c.getDeclaredClasses()) {
            Check.due(inside + " is static", Modifier.isStatic(inside.getModifiers()), true);
            privateNames(inside, names);
        }
        Check.end();
    }

    private static String told(Method m) {
        StringBuilder s = new StringBuilder(m.getReturnType() + " " + m.getName() + "(");
        for (Class<?> p : m.getParameterTypes()) {
            s.append(s.charAt(s.length() - 1) == '(' ? "" : ",").append(p);
        }
        return s.append(')').toString();
    }

    private static boolean isConstant(Field f) {
        return Modifier.isFinal(f.getModifiers()) && (f.getType().isPrimitive() || f.getType() == String.class);
    }

    private static void privateNames(Class<?> c, Set<String> names) {
        for (Method m : c.getDeclaredMethods()) {
            boolean hidden = Modifier.isPrivate(m.getModifiers());
            Check.due(m + " bears another name", hidden && names.contains(m.getName()), false);
        }
    }
}
