import java.lang.reflect.Constructor;
import java.lang.reflect.Field;
import java.lang.reflect.Method;
import java.lang.reflect.Modifier;
import java.util.ArrayList;
import java.util.Arrays;
import java.util.HashSet;
import java.util.List;
import java.util.Set;
import java.util.TreeSet;

/** The class's face is the document's, and nothing else of it can be seen (LANGUAGE.md, 1). */
public final class RailPowerFace {
    private static final String[] METHODS = {
        "int rule(int, int)", "int station(int, int)", "int set(int, boolean)", "int trip(int, int)",
        "int about(int, int)", "int train()", "int run(int, int, int, int)",
        "int runs(int, int, int, int, int)", "int putOff(int, int)", "int at(int, int, int)",
        "int feeds(int)", "long volts(int, int, int)", "long gives(int, int, int)", "long lowest(int)",
        "int safe()", "int firstOut()", "long most(int)", "int shorted(int, int)", "int right(int)",
        "long peak(int, int)", "long used(int)", "long given(int)", "long best(int)",
        "int sheet(int, int, int)", "int lose(int)", "int put(int, int, int)", "long cell(int, int, int)",
        "int tell(int)", "int call(int)", "int as(int, int)", "int trace()", "int fault()", "int many(int)",
    };
    private static final String[] FIELDS = {
        "int UNKNOWN", "int OUTSIDE", "int STATE", "int FULL", "int NONE", "long LOST",
    };

    private static int wrong = 0;

    public static void main(String[] args) {
        face();
        System.out.println(wrong == 0 ? "the face is the document's" : wrong + " faults");
        if (wrong != 0) {
            System.exit(1);
        }
    }

    private static void check(boolean holds, String what) {
        if (!holds) {
            wrong++;
            System.out.println(what);
        }
    }

    private static void face() {
        check(Modifier.isPublic(RailPower.class.getModifiers()), "the class is not public");
        check(Modifier.isFinal(RailPower.class.getModifiers()), "the class is not final");
        Set<String> methods = new TreeSet<>();
        Set<String> names = new HashSet<>();
        for (Method method : RailPower.class.getDeclaredMethods()) {
            if (Modifier.isPublic(method.getModifiers())) {
                methods.add(told(method));
                names.add(method.getName());
            } else {
                check(Modifier.isPrivate(method.getModifiers()), "not private: " + method);
            }
        }
        check(methods.equals(new TreeSet<>(Arrays.asList(METHODS))), "methods: " + methods);
        for (Method method : RailPower.class.getDeclaredMethods()) {
            check(Modifier.isPublic(method.getModifiers()) || !names.contains(method.getName()),
                    "bears the name of a public one: " + method);
        }
        Set<String> fields = new TreeSet<>();
        for (Field field : RailPower.class.getDeclaredFields()) {
            if (Modifier.isPublic(field.getModifiers())) {
                fields.add(field.getType() + " " + field.getName());
                check(Modifier.isStatic(field.getModifiers()) && Modifier.isFinal(field.getModifiers()),
                        "no constant: " + field);
            } else {
                check(Modifier.isPrivate(field.getModifiers()), "not private: " + field);
            }
        }
        check(fields.equals(new TreeSet<>(Arrays.asList(FIELDS))), "fields: " + fields);
        Constructor<?>[] constructors = RailPower.class.getDeclaredConstructors();
        check(constructors.length == 1 && Modifier.isPublic(constructors[0].getModifiers())
                && constructors[0].getParameterCount() == 0, "constructors: " + Arrays.toString(constructors));
    }

    private static String told(Method method) {
        List<String> types = new ArrayList<>();
        for (Class<?> type : method.getParameterTypes()) {
            types.add(type.getName());
        }
        return method.getReturnType() + " " + method.getName() + "(" + String.join(", ", types) + ")";
    }
}
