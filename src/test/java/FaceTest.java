import java.lang.reflect.Constructor;
import java.lang.reflect.Field;
import java.lang.reflect.Method;
import java.lang.reflect.Modifier;
import java.util.ArrayList;
import java.util.Arrays;
import java.util.HashSet;
import java.util.List;
import java.util.Set;
import java.util.TreeSet;

/** The class shows the document's face and nothing else. */
public final class FaceTest {
    private static final String[] METHODS = {
        "int add(int,int)", "int readSpans()", "int remove(int)", "int move(int,int)", "int come(int,int)",
        "int put(int,int)", "int speed(int,int)", "int pass(int)", "int type(char)", "int clearText()",
        "int undo()", "int keep()", "int restore()", "int span(int,int)", "int walker(int,int)",
        "int inside(int,int)", "int ask(int,int)", "int free(int,boolean)", "int most(int)",
        "int changesIn(int)", "int meetIn(int,int)", "int index(int)", "int event(int,int)", "int count(int)"};
    private static final String[] CONSTANTS = {"UNKNOWN", "BAD_VALUE", "FULL", "NOT_POSSIBLE", "NONE"};

    private static final Check CHECK = new Check("FaceTest");

    private static String written(Method method) {
        List<String> types = new ArrayList<>();
        for (Class<?> type : method.getParameterTypes()) {
            types.add(type.getName());
        }
        return method.getReturnType().getName() + " " + method.getName() + "(" + String.join(",", types) + ")";
    }

    private static void methods(Class<?> face) {
        Set<String> shown = new TreeSet<>();
        Set<String> names = new HashSet<>();
        for (Method method : face.getDeclaredMethods()) {
            if (!Modifier.isPrivate(method.getModifiers())) {
                shown.add(written(method));
                names.add(method.getName());
                CHECK.holds(method + " is public and nothing else", method.getModifiers() == Modifier.PUBLIC);
            }
        }
        CHECK.holds("the methods are " + shown, shown.equals(new TreeSet<>(Arrays.asList(METHODS))));
        for (Method method : face.getDeclaredMethods()) {
            boolean hidden = Modifier.isPrivate(method.getModifiers());
            CHECK.holds(method + " has a name of its own", !hidden || !names.contains(method.getName()));
        }
    }

    private static void fields(Class<?> face) {
        Set<String> shown = new TreeSet<>();
        for (Field field : face.getDeclaredFields()) {
            int modifiers = field.getModifiers();
            if (!Modifier.isPrivate(modifiers)) {
                shown.add(field.getName());
                CHECK.holds(field + " is a constant", field.getType() == int.class
                        && modifiers == (Modifier.PUBLIC | Modifier.STATIC | Modifier.FINAL));
            }
        }
        CHECK.holds("the constants are " + shown, shown.equals(new TreeSet<>(Arrays.asList(CONSTANTS))));
    }

    private static void classesInside(Class<?> face) {
        for (Class<?> inside : face.getDeclaredClasses()) {
            CHECK.holds(inside + " is static", Modifier.isStatic(inside.getModifiers()));
            CHECK.holds(inside + " is private or package-visible",
                    !Modifier.isPublic(inside.getModifiers()) && !Modifier.isProtected(inside.getModifiers()));
        }
        CHECK.holds("there are some twelve classes", face.getDeclaredClasses().length <= 12);
    }

    private static void staticFields(Class<?> type) {
        int own = 0;
        for (Field field : type.getDeclaredFields()) {
            boolean isStatic = Modifier.isStatic(field.getModifiers());
            CHECK.holds(field + " is final if it is static", !isStatic || Modifier.isFinal(field.getModifiers()));
            own += isStatic ? 0 : 1;
        }
        CHECK.holds(type + " has some twenty fields", own <= 20);
    }

    public static void main(String[] args) {
        Class<?> face = MiddleSpans.class;
        CHECK.holds("the class is public and final",
                face.getModifiers() == (Modifier.PUBLIC | Modifier.FINAL));
        Constructor<?>[] constructors = face.getDeclaredConstructors();
        CHECK.due("the constructors", constructors.length, 1);
        CHECK.holds("the constructor is public and takes nothing",
                constructors[0].getParameterCount() == 0 && constructors[0].getModifiers() == Modifier.PUBLIC);
        methods(face);
        fields(face);
        classesInside(face);
        staticFields(face);
        for (Class<?> inside : face.getDeclaredClasses()) {
            staticFields(inside);
        }
        CHECK.end();
    }
}
