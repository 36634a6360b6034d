import java.lang.reflect.Constructor;
import java.lang.reflect.Field;
import java.lang.reflect.Member;
import java.lang.reflect.Method;
import java.lang.reflect.Modifier;
import java.util.TreeSet;

/** The public face is the document's, and nothing but it can be seen from outside. */
public final class FaceTest {
    private static final String[] DUE = {
        "LooseShell(int)", "boolean name(int)", "boolean number(int,boolean)", "boolean word(int)", "int run()",
        "void reset()", "int outputs()", "int outputKind(int)", "long outputValue(int)", "int errorAt()",
        "int resultKind()", "long resultValue()", "int globalKind(int)", "long globalValue(int)", "int methods()",
        "int BOOLEAN=0", "int BYTE=1", "int CHAR=2", "int INT=3", "int LONG=4",
        "int OK=0", "int SYNTAX=1", "int UNDEFINED=2", "int KIND=3", "int ZERO=4", "int NO_METHOD=5",
        "int AMBIGUOUS=6", "int DEEP=7", "int FULL=8", "int BUDGET=9",
    };

    public static void main(String[] args) throws IllegalAccessException {
        Checks checks = new Checks("FaceTest");
        TreeSet<String> face = new TreeSet<>();
        for (Constructor<?> made : LooseShell.class.getDeclaredConstructors()) {
            addVisible(face, made, "LooseShell" + parameters(made.getParameterTypes()));
        }
        for (Method method : LooseShell.class.getDeclaredMethods()) {
            String text = method.getReturnType() + " " + method.getName() + parameters(method.getParameterTypes());
            addVisible(face, method, text);
        }
        for (Field field : LooseShell.class.getDeclaredFields()) {
            boolean constant = Modifier.isStatic(field.getModifiers()) && Modifier.isPublic(field.getModifiers());
            String value = constant ? "=" + field.getInt(null) : "";
            addVisible(face, field, field.getType() + " " + field.getName() + value);
        }
        TreeSet<String> due = new TreeSet<>();
        for (String member : DUE) {
            due.add(member);
        }
        checks.same("the face", face.toString(), due.toString());
        checks.same("final class", Modifier.isFinal(LooseShell.class.getModifiers()), true);
        checks.end();
    }

    private static void addVisible(TreeSet<String> face, Member member, String text) {
        if (!Modifier.isPrivate(member.getModifiers())) {
            face.add(text);
        }
    }

    private static String parameters(Class<?>[] types) {
        StringBuilder text = new StringBuilder("(");
        for (Class<?> type : types) {
            text.append(text.length() > 1 ? "," : "").append(type.getSimpleName());
        }
        return text.append(")").toString();
    }
}
