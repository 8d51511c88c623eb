import java.lang.reflect.Constructor;
import java.lang.reflect.Field;
import java.lang.reflect.Method;
import java.lang.reflect.Modifier;
import java.util.Arrays;
import java.util.TreeSet;

/** The public face, and that nothing else of the class can be seen. */
public final class FaceTest {
    private static final String[] METHODS = {
        "int rate(int,int,int,int)", "int loadTable(int)", "int weigh(int,int,int)", "int frank(int,int,int)",
        "long printed(int)", "int refill(int,int)", "int codeFor(int,int)", "int claimBack(int,int)",
        "long book(int)", "long counter(int,int)", "long dayTotal(int,int)", "int inspect(int)", "int lock()",
        "int unlock(int)", "int cut(int,int)", "int mount()", "int uncertain()", "int settle(boolean)",
        "int wear(int)", "int word(int,int)", "int sound()"};

    public static void main(String[] args) throws ReflectiveOperationException {
        Due due = new Due();
        due.is("modifiers", FrankDesk.class.getModifiers(), Modifier.PUBLIC | Modifier.FINAL);
        constants(due);
        constructors(due);
        methods(due);
        classesInside(due);
        due.end();
    }

    private static void constants(Due due) throws ReflectiveOperationException {
        due.is("NO", FrankDesk.NO, 0);
        due.is("YES", FrankDesk.YES, 1);
        due.is("BAD", FrankDesk.BAD, -1);
        due.is("CUT", FrankDesk.CUT, -7);
        int seen = 0;
        for (Field field : FrankDesk.class.getDeclaredFields()) {
            if (!Modifier.isPrivate(field.getModifiers())) {
                seen++;
                due.is(field.getName(), field.getModifiers(), Modifier.PUBLIC | Modifier.STATIC | Modifier.FINAL);
            }
            if (Modifier.isStatic(field.getModifiers())) {
                due.holds(field.getName() + " is final", Modifier.isFinal(field.getModifiers()));
            }
        }
        due.is("constants that can be seen", seen, 4);
    }

    private static void constructors(Due due) {
        Constructor<?>[] constructors = FrankDesk.class.getDeclaredConstructors();
        due.is("constructors", constructors.length, 1);
        due.is("its modifiers", constructors[0].getModifiers(), Modifier.PUBLIC);
        due.holds("its parameter", Arrays.equals(constructors[0].getParameterTypes(), new Class<?>[] {int.class}));
    }

    private static void methods(Due due) {
        TreeSet<String> seen = new TreeSet<>();
        TreeSet<String> names = new TreeSet<>();
        for (Method method : FrankDesk.class.getDeclaredMethods()) {
            if (!Modifier.isPrivate(method.getModifiers())) {
                due.is(method.getName(), method.getModifiers(), Modifier.PUBLIC);
                seen.add(text(method));
                names.add(method.getName());
            }
        }
        due.holds("methods that can be seen are " + seen, seen.equals(new TreeSet<>(Arrays.asList(METHODS))));
        for (Method method : FrankDesk.class.getDeclaredMethods()) {
            if (Modifier.isPrivate(method.getModifiers())) {
                due.holds(method.getName() + " has a name of its own", !names.contains(method.getName()));
            }
        }
    }

    private static String text(Method method) {
        StringBuilder text = new StringBuilder(method.getReturnType().getName() + " " + method.getName() + "(");
        for (Class<?> type : method.getParameterTypes()) {
            text.append(text.charAt(text.length() - 1) == '(' ? "" : ",").append(type.getName());
        }
        return text.append(")").toString();
    }

    private static void classesInside(Due due) {
        for (Class<?> inside : FrankDesk.class.getDeclaredClasses()) {
            due.is(inside.getName(), inside.getModifiers(), Modifier.PRIVATE | Modifier.STATIC | Modifier.FINAL);
        }
    }
}
