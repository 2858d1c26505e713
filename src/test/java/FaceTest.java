import java.lang.reflect.Constructor;
import java.lang.reflect.Field;
import java.lang.reflect.Method;
import java.lang.reflect.Modifier;
import java.util.ArrayList;
import java.util.Arrays;
import java.util.Collections;
import java.util.HashSet;
import java.util.List;
import java.util.Set;

/** The public face: every constant, the constructor and every method of the document, and no other member. */
public final class FaceTest {
    private static final String[] METHODS = {
        "int host(int)", "int guest(int)", "int base(int,int,int)", "int of(int,int,int)", "int terms(int,int)",
        "int feed(int,int,int,int,int)", "int end(int)", "int row()", "int smudged()", "int law()", "int fault()",
        "int force(int)", "int ask(int,int)", "int asked(int)", "int goes(int)", "int gain(int)", "int most(int)",
        "int mostOf(int)", "int fair(int)", "int steady()", "int steadyOf(int,int)", "int steadySum(int)",
        "int answers(int)", "int rounds(int)", "int turned(int)", "int breaks(int)", "int breaker()",
        "int dice(int,int,int)", "long mean(int)", "int restless()", "long alike(int)", "int alikeOf(int)",
        "int manner(int,int)", "int year(int,int)", "int dined(int,int,int)", "int earned(int)", "int settled()",
        "int image(int)", "int back(int)", "int count(int)", "int status()"};

    public static void main(String[] args) {
        Checks checks = new Checks("FaceTest");
        Class<SoleGuest> face = SoleGuest.class;
        checks.isSo("the class is public and final",
            Modifier.isPublic(face.getModifiers()) && Modifier.isFinal(face.getModifiers()));
        checks.isSo("the class has no package", face.getPackageName().isEmpty());
        List<String> due = new ArrayList<>(Arrays.asList(METHODS));
        List<String> found = new ArrayList<>();
        Set<String> names = new HashSet<>();
        for (Method method : face.getDeclaredMethods()) {
            if (!Modifier.isPrivate(method.getModifiers())) {
                found.add(told(method));
                names.add(method.getName());
                checks.isSo(told(method) + " is public and not static",
                    Modifier.isPublic(method.getModifiers()) && !Modifier.isStatic(method.getModifiers()));
            }
        }
        Collections.sort(due);
        Collections.sort(found);
        checks.isSo("methods " + found, due.equals(found));
        checkFieldsAndConstructor(checks, face);
        checkInside(checks, face, names);
        checks.close();
    }

    private static String told(Method method) {
        StringBuilder told = new StringBuilder(method.getReturnType().getName());
        told.append(' ').append(method.getName()).append('(');
        for (int i = 0; i < method.getParameterCount(); i++) {
            told.append(i == 0 ? "" : ",").append(method.getParameterTypes()[i].getName());
        }
        return told.append(')').toString();
    }

    private static void checkFieldsAndConstructor(Checks checks, Class<SoleGuest> face) {
        List<String> fields = new ArrayList<>();
        for (Field field : face.getDeclaredFields()) {
            if (!Modifier.isPrivate(field.getModifiers())) {
                fields.add(field.getName());
                checks.isSo(field.getName() + " is a constant", field.getType() == int.class
                    && Modifier.isPublic(field.getModifiers()) && Modifier.isStatic(field.getModifiers())
                    && Modifier.isFinal(field.getModifiers()));
            }
        }
        checks.isSo("fields " + fields, new HashSet<>(fields).equals(Set.of("NONE", "NOTHING")));
        Constructor<?>[] constructors = face.getDeclaredConstructors();
        checks.isSo("one public constructor without parameters", constructors.length == 1
            && constructors[0].getParameterCount() == 0 && Modifier.isPublic(constructors[0].getModifiers()));
        checks.same("NONE", SoleGuest.NONE, -1);
        checks.same("NOTHING", SoleGuest.NOTHING, -1000000);
    }

    private static void checkInside(Checks checks, Class<SoleGuest> face, Set<String> names) {
        List<Class<?>> all = new ArrayList<>();
        all.add(face);
        all.addAll(Arrays.asList(face.getDeclaredClasses()));
        checks.isSo("at most twelve classes", all.size() <= 12);
        for (Class<?> inside : all) {
            int fields = 0;
            for (Field field : inside.getDeclaredFields()) {
                fields += Modifier.isStatic(field.getModifiers()) ? 0 : 1;
                checks.isSo("static is final: " + field,
                    !Modifier.isStatic(field.getModifiers()) || Modifier.isFinal(field.getModifiers()));
            }
            checks.isSo(inside + " has at most twenty fields", fields <= 20);
            for (Method method : inside.getDeclaredMethods()) {
                checks.isSo(method + " has at most seven parameters", method.getParameterCount() <= 7);
                checks.isSo(method + " does not bear a public name",
                    inside == face && Modifier.isPublic(method.getModifiers()) || !names.contains(method.getName()));
            }
            checks.isSo(inside + " is static", inside == face || Modifier.isStatic(inside.getModifiers()));
        }
    }
}
