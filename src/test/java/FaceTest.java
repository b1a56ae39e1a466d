import java.lang.reflect.Constructor;
import java.lang.reflect.Field;
import java.lang.reflect.Method;
import java.lang.reflect.Modifier;
import java.util.TreeSet;

/** The public face is the document's, and there is no other member that others could see. */
public final class FaceTest {
    private static final String[] METHODS = {
        "int line(int)", "int device(int,int)", "int coupler(int,int)", "boolean mode(int,int)",
        "boolean filter(int,int,boolean)", "int object(int,int,int,int)",
        "boolean flags(int,int,int)", "boolean link(int,int,int)", "int set(int,int,int)",
        "int ask(int,int)", "long value(int,int)", "int updated(int,int)",
        "long hundredths(int,int)", "int point(int,int,int)", "boolean connect(int,int)",
        "boolean disconnect(int)", "boolean peek(int,int,int)", "boolean poke(int,int,int,int)",
        "int memory(int,int)", "boolean store(int,int,int)", "int reply(int,int)",
        "int connection(int,int)", "boolean busy(int,int)", "int feed(int,int,int,int,int)",
        "int end(int)", "int raw(int)", "boolean harm(int,int,int)",
        "int step(int) throws IllegalArgumentException",
        "int sent(int) throws NoSuchElementException", "int count(int)"};

    public static void main(String[] args) {
        Check check = new Check("FaceTest");
        Class<HouseWires> face = HouseWires.class;
        check.yes("public and final", Modifier.isPublic(face.getModifiers())
                && Modifier.isFinal(face.getModifiers()));
        check.due("NONE", HouseWires.NONE, -1);
        TreeSet<String> want = new TreeSet<>();
        TreeSet<String> names = new TreeSet<>();
        for (String method : METHODS) {
            want.add(method);
            names.add(method.substring(method.indexOf(' ') + 1, method.indexOf('(')));
        }
        TreeSet<String> got = new TreeSet<>();
        for (Method method : face.getDeclaredMethods()) {
            if (!Modifier.isPrivate(method.getModifiers())) {
                got.add(told(method));
            } else {
                check.no("private " + method.getName() + " bears a public name",
                        names.contains(method.getName()));
            }
        }
        check.yes("methods " + got, got.equals(want));
        for (Field field : face.getDeclaredFields()) {
            boolean isPrivate = Modifier.isPrivate(field.getModifiers());
            check.yes("field " + field.getName(), isPrivate || field.getName().equals("NONE"));
        }
        Constructor<?>[] made = face.getDeclaredConstructors();
        check.due("constructors", made.length, 1);
        check.due("their arguments", made[0].getParameterCount(), 0);
        check.yes("public constructor", Modifier.isPublic(made[0].getModifiers()));
        check.end();
    }

    private static String told(Method method) {
        StringBuilder text = new StringBuilder();
        text.append(method.getReturnType()).append(' ').append(method.getName()).append('(');
        String comma = "";
        for (Class<?> type : method.getParameterTypes()) {
            text.append(comma).append(type);
            comma = ",";
        }
        text.append(')');
        for (Class<?> type : method.getExceptionTypes()) {
            text.append(" throws ").append(type.getSimpleName());
        }
        return text.toString();
    }
}
