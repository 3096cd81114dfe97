import java.lang.reflect.Constructor;
import java.lang.reflect.Field;
import java.lang.reflect.Method;
import java.lang.reflect.Modifier;
import java.util.ArrayList;
import java.util.Arrays;
import java.util.Collections;
import java.util.List;

/**
 * The class has the face that the document shows, and no other member that can be seen from outside; and what of
 * ../shared/LANGUAGE.md the compiled class tells.
 */
public final class FaceTest {
    private static final String[] METHODS = {
        "public int HandCases.house(int,int)",
        "public int HandCases.point(int,int)",
        "public int HandCases.item(int,int)",
        "public int HandCases.bundle(int,int)",
        "public int HandCases.put(int,int)",
        "public boolean HandCases.hold(int,boolean)",
        "public int HandCases.sample(int,int,int)",
        "public int HandCases.sort()",
        "public int HandCases.frame(int,int) throws java.lang.IllegalArgumentException,"
            + "java.lang.IndexOutOfBoundsException",
        "public int HandCases.list(int,int) throws java.lang.IllegalArgumentException,"
            + "java.lang.IndexOutOfBoundsException",
        "public int HandCases.drawer(int,int)",
        "public int HandCases.stray(int)",
        "public int HandCases.lies(int)",
        "public int HandCases.minutes(int) throws java.lang.IllegalArgumentException",
        "public int HandCases.teaching(int,int)",
        "public int HandCases.count(int) throws java.lang.IndexOutOfBoundsException",
    };

    public static void main(String[] args) {
        Check check = new Check("FaceTest");
        int modifiers = HandCases.class.getModifiers();
        check.same("public final", Modifier.isPublic(modifiers) && Modifier.isFinal(modifiers), true);
        check.same("methods", visibleMethods().toString(), sorted(Arrays.asList(METHODS)).toString());
        check.same("fields", visibleFields().toString(), "[public static final int HandCases.NONE]");
        check.same("constructors", visibleConstructors().toString(), "[public HandCases(int)]");
        check.same("NONE", HandCases.NONE, -1);
        check.same("rule 1: private methods with a public one's name", privateNamesakes().toString(), "[]");
        check.same("rule 5: static fields that are not final", staticsNotFinal().toString(), "[]");
        check.same("rule 11: methods of more than seven parameters", longMethods().toString(), "[]");
        check.same("rule 11: at most twenty fields", instanceFields() <= 20, true);
        check.end();
    }

    private static List<String> privateNamesakes() {
        String visible = visibleMethods().toString();
        List<String> all = new ArrayList<>();
        for (Method method : HandCases.class.getDeclaredMethods()) {
            if (Modifier.isPrivate(method.getModifiers()) && visible.contains("." + method.getName() + "(")) {
                all.add(method.getName());
            }
        }
        return all;
    }

    private static List<String> staticsNotFinal() {
        List<String> all = new ArrayList<>();
        for (Field field : HandCases.class.getDeclaredFields()) {
            if (Modifier.isStatic(field.getModifiers()) && !Modifier.isFinal(field.getModifiers())) {
                all.add(field.getName());
            }
        }
        return all;
    }

    private static List<String> longMethods() {
        List<String> all = new ArrayList<>();
        for (Method method : HandCases.class.getDeclaredMethods()) {
            if (method.getParameterCount() > 7) {
                all.add(method.getName());
            }
        }
        return all;
    }

    private static int instanceFields() {
        int some = 0;
        for (Field field : HandCases.class.getDeclaredFields()) {
            some += Modifier.isStatic(field.getModifiers()) ? 0 : 1;
        }
        return some;
    }

    private static List<String> sorted(List<String> texts) {
        List<String> all = new ArrayList<>(texts);
        Collections.sort(all);
        return all;
    }

    private static List<String> visibleMethods() {
        List<String> all = new ArrayList<>();
        for (Method method : HandCases.class.getDeclaredMethods()) {
            if (!Modifier.isPrivate(method.getModifiers()) && !method.isSynthetic()) {
                all.add(method.toGenericString());
            }
        }
        return sorted(all);
    }

    private static List<String> visibleFields() {
        List<String> all = new ArrayList<>();
        for (Field field : HandCases.class.getDeclaredFields()) {
            if (!Modifier.isPrivate(field.getModifiers()) && !field.isSynthetic()) {
                all.add(field.toGenericString());
            }
        }
        return sorted(all);
    }

    private static List<String> visibleConstructors() {
        List<String> all = new ArrayList<>();
        for (Constructor<?> constructor : HandCases.class.getDeclaredConstructors()) {
            if (!Modifier.isPrivate(constructor.getModifiers())) {
                all.add(constructor.toGenericString());
            }
        }
        return sorted(all);
    }
}
