import java.lang.reflect.Constructor;
import java.lang.reflect.Field;
import java.lang.reflect.Method;
import java.lang.reflect.Modifier;
import java.util.Set;
import java.util.TreeSet;

/** The public face: what the document lists and nothing else, and no private method with a public one's name. */
public final class FaceTest {
    private static final String[] DUE = {
        "int child(int,int,boolean)", "boolean bar(int,int)", "int cabin(int)", "boolean lie(int,int)", "int house()",
        "int step()", "int better()", "int cost(int)", "int least()", "int task(int,int,boolean)",
        "int groups(int,int,int)", "int feed(int,int,int,int,int)", "int end(int)", "int game()", "int fault(int)",
        "int said(int,int,int,boolean,boolean)", "int night()", "boolean paysSilence(int)", "int tell(int,int)",
        "int helper(int)", "int watch(int,int,int)", "int watcher(int)", "int table(int,int,int,int)",
        "int met(int,int,int,int)", "int host()", "boolean like(int,int,int)", "int give()",
        "boolean mark(int,int,int,int)", "int held(int)", "int count(int)", "boolean image(int)", "boolean again(int)"};

    /** What these answer is free. */
    private static final String FREE = "toString|equals|hashCode";

    public static void main(String[] args) {
        Class<TongueCamp> face = TongueCamp.class;
        Set<String> due = new TreeSet<>();
        Set<String> names = new TreeSet<>();
        for (String method : DUE) {
            due.add(method);
            names.add(method.substring(method.indexOf(' ') + 1, method.indexOf('(')));
        }
        Set<String> got = new TreeSet<>();
        for (Method method : face.getDeclaredMethods()) {
            if (Modifier.isPrivate(method.getModifiers())) {
                Check.due("private " + method.getName() + " is another's name", names.contains(method.getName()), false);
            } else if (!method.getName().matches(FREE)) {
                got.add(told(method));
            }
        }
        Check.due("methods " + got, got.equals(due), true);
        Check.due("final", Modifier.isFinal(face.getModifiers()), true);
        Check.due("public", Modifier.isPublic(face.getModifiers()), true);
        Constructor<?>[] made = face.getDeclaredConstructors();
        Check.due("one constructor", made.length, 1);
        Check.due("public constructor", made.length == 1 && Modifier.isPublic(made[0].getModifiers()), true);
        for (Field field : face.getDeclaredFields()) {
            boolean isNone = field.getName().equals("NONE");
            Check.due("field " + field.getName(), Modifier.isPrivate(field.getModifiers()), !isNone);
            boolean fixed = Modifier.isFinal(field.getModifiers()) || !Modifier.isStatic(field.getModifiers());
            Check.due("static and changed: " + field.getName(), fixed, true);
        }
        for (Class<?> inside : face.getDeclaredClasses()) {
            Check.due("static " + inside.getName(), Modifier.isStatic(inside.getModifiers()), true);
            Check.due("hidden " + inside.getName(), Modifier.isPublic(inside.getModifiers()), false);
        }
        Check.due("NONE", TongueCamp.NONE, -1);
        Check.finish("FaceTest");
    }

    private static String told(Method method) {
        StringBuilder text = new StringBuilder();
        text.append(Modifier.isPublic(method.getModifiers()) ? "" : "hidden ");
        text.append(method.getReturnType().getName()).append(' ').append(method.getName()).append('(');
        for (Class<?> type : method.getParameterTypes()) {
            text.append(text.charAt(text.length() - 1) == '(' ? "" : ",").append(type.getName());
        }
        return text.append(')').toString();
    }
}
