import java.lang.reflect.Field;
import java.lang.reflect.Method;
import java.lang.reflect.Modifier;
import java.util.Arrays;
import java.util.HashSet;
import java.util.Set;
import java.util.TreeSet;

/** The public face is the document's and no more (LANGUAGE.md, rules 1, 2, 5 and 11). */
public final class FaceTest {
    private static final String[] FACE = {"int source(int)", "int row(int,int,int,int,int)", "int change(int,int,boolean)",
        "int type(long,int)", "int read()", "int triples()", "int triple(int,int)", "int byteOf(int,int,int)",
        "int which(int,int,int)", "int bads()", "int bad(int,int)", "int print()", "int at(int)"};
    private static int wrong = 0;

    private static void hold(boolean holds, String what) {
        if (!holds) {
            wrong++;
            System.out.println("does not hold: " + what);
        }
    }

    public static void main(String[] args) throws Exception {
        Class<?> face = MappingText.class;
        hold(Modifier.isPublic(face.getModifiers()) && Modifier.isFinal(face.getModifiers()), "public and final");
        hold(face.getDeclaredConstructors().length == 1 && face.getConstructor() != null, "one public constructor");
        Set<String> publics = new TreeSet<>();
        Set<String> publicNames = new HashSet<>();
        for (Method method : face.getDeclaredMethods()) {
            if (Modifier.isPublic(method.getModifiers())) {
                String parameters = Arrays.toString(method.getParameterTypes()).replaceAll("[\\[\\] ]", "");
                publics.add(method.getReturnType() + " " + method.getName() + "(" + parameters + ")");
                publicNames.add(method.getName());
                hold(!Modifier.isStatic(method.getModifiers()), method.getName() + " is of the object");
            } else {
                hold(Modifier.isPrivate(method.getModifiers()), method.getName() + " is private");
            }
        }
        hold(publics.equals(new TreeSet<>(Arrays.asList(FACE))), "the methods of the document: " + publics);
        Set<String> constants = new TreeSet<>();
        for (Field field : face.getDeclaredFields()) {
            if (Modifier.isPublic(field.getModifiers())) {
                constants.add(field.getName() + "=" + field.get(null));
            } else {
                hold(Modifier.isPrivate(field.getModifiers()), field.getName() + " is private");
            }
        }
        hold(constants.toString().equals("[BAD=-1, FULL=-2, NO=-3]"), "the constants of the document: " + constants);
        inside(face, publicNames);
        System.out.println(wrong == 0 ? "the face is as told" : wrong + " things do not hold");
        if (wrong != 0) {
            System.exit(1);
        }
    }

    private static void inside(Class<?> face, Set<String> publicNames) {
        Class<?>[] classes = face.getDeclaredClasses();
        hold(classes.length <= 11, "at most twelve classes");
        for (Class<?> one : classes) {
            hold(Modifier.isStatic(one.getModifiers()) && !Modifier.isPublic(one.getModifiers()), one + " is static and hidden");
            int fields = 0;
            for (Field field : one.getDeclaredFields()) {
                hold(!Modifier.isStatic(field.getModifiers()) || Modifier.isFinal(field.getModifiers()), field + " is final");
                fields += Modifier.isStatic(field.getModifiers()) ? 0 : 1;
            }
            hold(fields <= 20, one + " has at most twenty fields");
            for (Method method : one.getDeclaredMethods()) {
                hold(!publicNames.contains(method.getName()), method + " bears no name of the face");
                hold(method.getParameterCount() <= 7, method + " takes at most seven parameters");
            }
        }
    }
}
