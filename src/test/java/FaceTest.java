import java.lang.reflect.Constructor;
import java.lang.reflect.Field;
import java.lang.reflect.Member;
import java.lang.reflect.Method;
import java.lang.reflect.Modifier;
import java.util.ArrayList;
import java.util.Arrays;
import java.util.List;
import java.util.Set;
import java.util.TreeSet;

/** The class shows the document's face and nothing else, and holds no state outside its objects. */
public final class FaceTest {
    private static int wrong = 0;

    private static final String[] FACE = {
        "public boolean SiteTriangles.bounded(int)",
        "public boolean SiteTriangles.joined(int,int)",
        "public double SiteTriangles.square(int,double,double)",
        "public int SiteTriangles.add(int,int)",
        "public int SiteTriangles.beyond(int,int)",
        "public int SiteTriangles.corner(int)",
        "public int SiteTriangles.corners()",
        "public int SiteTriangles.degree(int)",
        "public int SiteTriangles.holder(double,double)",
        "public int SiteTriangles.nearest(double,double)",
        "public int SiteTriangles.sites()",
        "public int SiteTriangles.tree(int)",
        "public int SiteTriangles.triangle(int)",
        "public int SiteTriangles.triangles()",
        "public long SiteTriangles.centre(int,int)",
        "public long SiteTriangles.total()",
    };

    private static final Set<Class<?>> CONSTANTS = Set.of(
        int.class, long.class, boolean.class, char.class, String.class, int[].class, long[].class, char[].class, byte[].class);

    public static void main(String[] args) {
        Class<SiteTriangles> type = SiteTriangles.class;
        due("the class's modifiers", Modifier.PUBLIC | Modifier.FINAL, type.getModifiers());
        due("the class's parent", Object.class, type.getSuperclass());
        methodsAreTheFace(type);
        constructorIsTheFace(type);
        fieldsAreHidden(type);
        if (wrong != 0) {
            System.exit(1);
        }
    }

    private static void methodsAreTheFace(Class<?> type) {
        Set<String> shown = new TreeSet<>();
        Set<String> shownNames = new TreeSet<>();
        List<Method> hidden = new ArrayList<>();
        for (Method method : type.getDeclaredMethods()) {
            if (Modifier.isPrivate(method.getModifiers())) {
                hidden.add(method);
            } else {
                shown.add(method.toString());
                shownNames.add(method.getName());
            }
        }
        due("the methods that are not private", new TreeSet<>(Arrays.asList(FACE)), shown);
        for (Method method : hidden) {
            due(method + " bears a public name", false, shownNames.contains(method.getName()));
        }
    }

    private static void constructorIsTheFace(Class<?> type) {
        Set<String> found = new TreeSet<>();
        for (Constructor<?> constructor : type.getDeclaredConstructors()) {
            found.add(constructor.toString());
        }
        due("the constructors", new TreeSet<>(List.of("public SiteTriangles()")), found);
    }

    private static void fieldsAreHidden(Class<?> type) {
        for (Field field : type.getDeclaredFields()) {
            due(field + " is private", true, Modifier.isPrivate(field.getModifiers()));
            if (isStatic(field)) {
                due(field + " is final", true, Modifier.isFinal(field.getModifiers()));
                due(field + " is of a type of constants", true, CONSTANTS.contains(field.getType()));
            }
        }
    }

    private static boolean isStatic(Member member) {
        return Modifier.isStatic(member.getModifiers());
    }

    private static void due(String what, Object want, Object got) {
        if (!want.equals(got)) {
            wrong++;
            System.out.println(what + ": " + got + ", due is " + want);
        }
    }
}
