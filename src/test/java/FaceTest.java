import java.lang.reflect.Constructor;
import java.lang.reflect.Field;
import java.lang.reflect.Method;
import java.lang.reflect.Modifier;
import java.util.Arrays;
import java.util.HashSet;
import java.util.Set;
import java.util.TreeSet;

/** The class shows the document's constants, constructor and methods, and nothing else. */
public final class FaceTest {
    private static final String[] METHODS = {
        "int plug(int,int,int,int,boolean,int,int) Index Argument State",
        "int unplug(int) Index State",
        "int driver(int,int,int,boolean) Argument State",
        "int load(int,int) Index Argument",
        "int unbind(int) Index State",
        "int bind(int) Index State",
        "int reset(int) Index State",
        "int open(int) Index State",
        "boolean close(int) Index State",
        "int call(int,int) Index Argument State",
        "int set(int,int) Index Argument State",
        "int get(int) Index State",
        "int map(int,int) Index Argument State",
        "int unmap(int,int) Index State",
        "int access(int,int) Index State",
        "int pass(int) Argument State",
        "int suspend() State",
        "int resume() State",
        "int raise(int) Index State",
        "int openLine(int) Index",
        "boolean isThere(int) Index",
        "int reason(int) Index",
        "int driverOf(int) Index",
        "int window(int) Index",
        "boolean isOn(int) Index",
        "boolean isPending(int) Index",
        "int strikes(int) Index",
        "int handles(int) Index",
        "int callState(int) Index",
        "int faults()",
        "int given(int) Argument",
        "int events()",
        "int eventKind(int) Index",
        "int eventOf(int) Index",
    };
    private static final String[] CONSTANTS = {
        "NONE=-1", "GOING=0", "FINISHED=1", "ABORTED=2",
        "BOUND=0", "UNBOUND=1", "UNPLUGGED=2", "SLEPT=3", "WOKEN=4", "SHUT=5",
    };

    public static void main(String[] args) throws IllegalAccessException {
        methods();
        constants();
        constructors();
        Due.end("FaceTest");
    }

    private static void methods() {
        Set<String> names = new HashSet<>();
        Set<String> shown = new TreeSet<>();
        for (Method each : DriverMoor.class.getDeclaredMethods()) {
            if (!Modifier.isPrivate(each.getModifiers())) {
                Due.is("public " + each.getName(), Modifier.isPublic(each.getModifiers()), true);
                Due.is("static " + each.getName(), Modifier.isStatic(each.getModifiers()), false);
                shown.add(told(each));
                names.add(each.getName());
            }
        }
        Due.is("the methods", shown.toString(), new TreeSet<>(Arrays.asList(METHODS)).toString());
        for (Method each : DriverMoor.class.getDeclaredMethods()) {
            boolean isHidden = Modifier.isPrivate(each.getModifiers());
            Due.is("a private namesake " + each.getName(), isHidden && names.contains(each.getName()), false);
        }
    }

    private static String told(Method method) {
        StringBuilder text = new StringBuilder();
        text.append(method.getReturnType().getName()).append(' ').append(method.getName()).append('(');
        String gap = "";
        for (Class<?> each : method.getParameterTypes()) {
            text.append(gap).append(each.getName());
            gap = ",";
        }
        text.append(')');
        for (Class<?> each : method.getExceptionTypes()) {
            String name = each.getSimpleName();
            text.append(' ').append(name.startsWith("Index") ? "Index" : name.substring("Illegal".length(),
                    name.length() - "Exception".length()));
        }
        return text.toString();
    }

    private static void constants() throws IllegalAccessException {
        Set<String> shown = new TreeSet<>();
        for (Field each : DriverMoor.class.getDeclaredFields()) {
            if (!Modifier.isPrivate(each.getModifiers())) {
                int wanted = Modifier.PUBLIC | Modifier.STATIC | Modifier.FINAL;
                Due.is("modifiers of " + each.getName(), each.getModifiers(), wanted);
                shown.add(each.getName() + "=" + each.getInt(null));
            }
        }
        Due.is("the constants", shown.toString(), new TreeSet<>(Arrays.asList(CONSTANTS)).toString());
    }

    private static void constructors() {
        Due.is("modifiers of the class", DriverMoor.class.getModifiers(), Modifier.PUBLIC | Modifier.FINAL);
        Constructor<?>[] all = DriverMoor.class.getDeclaredConstructors();
        Due.is("constructors", all.length, 1);
        Due.is("a public constructor", Modifier.isPublic(all[0].getModifiers()), true);
        Due.is("its parameters", all[0].getParameterCount(), 0);
        Due.is("its exceptions", all[0].getExceptionTypes().length, 0);
        for (Class<?> each : DriverMoor.class.getDeclaredClasses()) {
            int modifiers = each.getModifiers();
            boolean isInside = !Modifier.isPublic(modifiers) && !Modifier.isProtected(modifiers);
            Due.is("an inner class is hidden and static: " + each.getName(),
                    isInside && Modifier.isStatic(modifiers), true);
        }
    }
}
