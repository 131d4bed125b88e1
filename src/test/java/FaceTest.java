import java.lang.reflect.Constructor;
import java.lang.reflect.Method;
import java.lang.reflect.Modifier;
import java.util.Set;
import java.util.TreeSet;

/** The class has the document's public face, and nothing besides that another class could use. */
public final class FaceTest {
    private static final String[] FACE = {
        "int sew(int,int) IndexOutOfBoundsException IllegalArgumentException IllegalStateException",
        "int again(int,int) IndexOutOfBoundsException IllegalArgumentException IllegalStateException",
        "int unpick(int,int) IndexOutOfBoundsException IllegalArgumentException",
        "int add(int) IllegalArgumentException IllegalStateException",
        "int clear()",
        "int stitch(int,int) IndexOutOfBoundsException",
        "int count(int) IndexOutOfBoundsException",
        "int end(int,int) IndexOutOfBoundsException",
        "int rank(int,int) IndexOutOfBoundsException",
        "int common(int,int,int) IndexOutOfBoundsException",
        "int against(int,int) IndexOutOfBoundsException",
        "int repeat(int,int) IndexOutOfBoundsException",
        "int row(int,int) IndexOutOfBoundsException",
        "int found(int) IndexOutOfBoundsException",
        "int first(int) IndexOutOfBoundsException",
        "int period(int) IndexOutOfBoundsException",
        "int turned(int) IndexOutOfBoundsException",
        "int seam(int) IndexOutOfBoundsException",
        "int would(int,int) IndexOutOfBoundsException IllegalArgumentException",
        "int advise(int) IndexOutOfBoundsException",
        "double mean()",
        "long digest()",
    };

    public static void main(String[] args) {
        Check check = new Check();
        check.due("the class", "public final class HemSuffixes",
            () -> Modifier.toString(HemSuffixes.class.getModifiers()) + " class " + HemSuffixes.class.getName());
        check.due("its methods", new TreeSet<>(Set.of(FACE)), FaceTest::visibleMethods);
        check.due("its constructors", "public HemSuffixes()", FaceTest::constructors);
        check.due("its visible fields", 0, FaceTest::visibleFields);
        check.finish();
    }

    private static Set<String> visibleMethods() {
        Set<String> visible = new TreeSet<>();
        for (Method method : HemSuffixes.class.getDeclaredMethods()) {
            if (!Modifier.isPrivate(method.getModifiers()) && !method.isSynthetic()) {
                visible.add(written(method));
            }
        }
        return visible;
    }

    private static String written(Method method) {
        StringBuilder text = new StringBuilder();
        if (!Modifier.isPublic(method.getModifiers()) || Modifier.isStatic(method.getModifiers())) {
            text.append(Modifier.toString(method.getModifiers())).append(' ');
        }
        text.append(method.getReturnType()).append(' ').append(method.getName()).append('(');
        String comma = "";
        for (Class<?> type : method.getParameterTypes()) {
            text.append(comma).append(type);
            comma = ",";
        }
        text.append(')');
        for (Class<?> thrown : method.getExceptionTypes()) {
            text.append(' ').append(thrown.getSimpleName());
        }
        return text.toString();
    }

    private static String constructors() {
        StringBuilder text = new StringBuilder();
        for (Constructor<?> constructor : HemSuffixes.class.getDeclaredConstructors()) {
            text.append(constructor);
        }
        return text.toString();
    }

    private static int visibleFields() {
        int visible = 0;
        for (java.lang.reflect.Field field : HemSuffixes.class.getDeclaredFields()) {
            visible += Modifier.isPrivate(field.getModifiers()) ? 0 : 1;
        }
        return visible;
    }
}
