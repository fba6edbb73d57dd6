import java.lang.reflect.Constructor;
import java.lang.reflect.Field;
import java.lang.reflect.Method;
import java.lang.reflect.Modifier;
import java.util.Set;
import java.util.TreeSet;

/** The class has the public members of the document, and none but private ones beside them. */
public final class FaceTest {
    private static final Set<String> FACE = Set.of(
            "int begin()", "int look(int)", "int put(int,int,boolean)", "int note(int,int)",
            "boolean read(int,int)", "boolean told(int,int)", "int commit(int)", "int abort(int)",
            "int pin(int)", "int unpin(int)", "int free()", "int rows()", "int latest()",
            "int least()", "int state(int)", "int waits(int)", "int ring(int)", "int conflicts(int,int)");

    public static void main(String[] args) {
        Check check = new Check();
        Class<?> face = VersionTrans.class;
        check.due("the class is public and final", Modifier.PUBLIC | Modifier.FINAL, face.getModifiers());
        Set<String> found = new TreeSet<>();
        Set<String> names = new TreeSet<>();
        for (Method method : face.getDeclaredMethods()) {
            if (Modifier.isPublic(method.getModifiers())) {
                found.add(signature(method));
                names.add(method.getName());
            }
        }
        check.due("the face is the document's: " + found, true, found.equals(FACE));
        for (Method method : face.getDeclaredMethods()) {
            if (!Modifier.isPublic(method.getModifiers())) {
                check.due(method + " is private", true, Modifier.isPrivate(method.getModifiers()));
                check.due(method + " has a name of its own", false, names.contains(method.getName()));
            }
        }
        Constructor<?>[] constructors = face.getDeclaredConstructors();
        check.due("constructors", 1, constructors.length);
        check.due("its arguments", 0, constructors[0].getParameterCount());
        check.due("it is public", true, Modifier.isPublic(constructors[0].getModifiers()));
        for (Field field : face.getDeclaredFields()) {
            check.due(field + " is private", true, Modifier.isPrivate(field.getModifiers()));
        }
        check.end();
    }

    private static String signature(Method method) {
        StringBuilder text = new StringBuilder();
        text.append(method.getReturnType().getName()).append(' ').append(method.getName()).append('(');
        String comma = "";
        for (Class<?> type : method.getParameterTypes()) {
            text.append(comma).append(type.getName());
            comma = ",";
        }
        return text.append(')').toString();
    }
}
