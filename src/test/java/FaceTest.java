import java.lang.reflect.Constructor;
import java.lang.reflect.Field;
import java.lang.reflect.Method;
import java.lang.reflect.Modifier;
import java.util.Arrays;
import java.util.Set;
import java.util.TreeSet;

/** The class has the document's face, and no other member that can be seen (LANGUAGE.md, rule 1). */
public final class FaceTest {
    private static final Due due = new Due();
    private static final Set<String> METHODS = new TreeSet<>(Arrays.asList(
        "int name(int, int, int)", "int feed(int, int, int, int, int)", "int end(int)", "int program()", "int fault()",
        "int cap(int, int)", "int capped(int)", "long spends(int, int, int, int, int)", "long worst(int, int)",
        "int cheapest(int, long)", "int ask(int)", "long where(int)", "int ordinary(int, int, int, int)",
        "long need(int)", "int budgets(long)", "int ahead(int, int)", "int tangled()", "int count(int)", "int status()"));

    public static void main(String[] args) {
        due.that("the class is public and final", Modifier.isPublic(UsedUp.class.getModifiers())
            && Modifier.isFinal(UsedUp.class.getModifiers()));
        methods();
        fields();
        Constructor<?>[] made = UsedUp.class.getDeclaredConstructors();
        due.is("constructors", made.length, 1);
        due.that("its constructor is public, without parameters", Modifier.isPublic(made[0].getModifiers())
            && made[0].getParameterCount() == 0);
        nested();
        due.finish();
    }

    private static void methods() {
        Set<String> seen = new TreeSet<>();
        Set<String> names = new TreeSet<>();
        for (Method m : UsedUp.class.getDeclaredMethods()) {
            if (!Modifier.isPrivate(m.getModifiers())) {
                String parameters = Arrays.toString(m.getParameterTypes());
                seen.add(m.getReturnType() + " " + m.getName() + "(" + parameters.substring(1, parameters.length() - 1) + ")");
                due.that(m.getName() + " is public, not static", m.getModifiers() == Modifier.PUBLIC);
                names.add(m.getName());
            }
        }
        due.that("the methods are those of the document: " + seen, seen.equals(METHODS));
        for (Class<?> inside : UsedUp.class.getDeclaredClasses()) {
            privateNames(inside, names);
        }
        privateNames(UsedUp.class, names);
    }

    private static void privateNames(Class<?> owner, Set<String> names) {
        for (Method m : owner.getDeclaredMethods()) {
            due.that(m + " takes at most seven", m.getParameterCount() <= 7);
            if (Modifier.isPrivate(m.getModifiers()) || owner != UsedUp.class) {
                due.that(m + " bears no public one's name", !names.contains(m.getName()));
            }
        }
    }

    private static void fields() {
        for (Field f : UsedUp.class.getDeclaredFields()) {
            boolean constant = f.getName().equals("NONE") || f.getName().equals("MUCH");
            due.that(f + " is private unless it is a constant of the document",
                constant ? Modifier.isPublic(f.getModifiers()) : Modifier.isPrivate(f.getModifiers()));
            due.that(f + " is final if it is static", !Modifier.isStatic(f.getModifiers()) || Modifier.isFinal(f.getModifiers()));
        }
    }

    private static void nested() {
        due.that("at most twelve classes", UsedUp.class.getDeclaredClasses().length < 12);
        for (Class<?> inside : UsedUp.class.getDeclaredClasses()) {
            due.that(inside + " is static", Modifier.isStatic(inside.getModifiers()));
            int fields = 0;
            for (Field f : inside.getDeclaredFields()) {
                fields += Modifier.isStatic(f.getModifiers()) ? 0 : 1;
            }
            due.that(inside + " has some twenty fields at most", fields <= 20);
        }
    }
}
