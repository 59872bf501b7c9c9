import java.lang.reflect.Constructor;
import java.lang.reflect.Field;
import java.lang.reflect.Method;
import java.lang.reflect.Modifier;
import java.util.Set;
import java.util.TreeSet;

/** The public face is the document's and nothing else, and the classes inside keep to the language's limits. */
public final class FaceTest {
    private static final String[] FACE = {"feed(long,long,long,long,long)int", "end(int)int", "run()int", "wrong()int", "outputs()int",
        "out(int)int", "crash(int,int,int)boolean", "recover()int", "isDown()boolean", "isOpen()boolean", "live()int", "idAt(int)int",
        "kindOf(int)int", "places(int)int", "rings(int)int", "at(int,int,int)int", "relate(int,int,int)int",
        "nearer(int,int,int,int)int", "used()int", "saves()int", "flaws()int"};

    public static void main(String[] args) {
        Set<String> due = new TreeSet<>(Set.of(FACE));
        Set<String> names = new TreeSet<>();
        Set<String> found = new TreeSet<>();
        for (String method : FACE) {
            names.add(method.substring(0, method.indexOf('(')));
        }
        for (Method method : LandBase.class.getDeclaredMethods()) {
            if (!Modifier.isPrivate(method.getModifiers())) {
                found.add(signature(method));
            } else {
                Desk.due("private " + method.getName() + " bears a public name", names.contains(method.getName()), false);
            }
        }
        if (!found.equals(due)) {
            Desk.due("the face " + found, 1, 0);
        }
        for (Constructor<?> constructor : LandBase.class.getConstructors()) {
            Desk.due("arguments of the constructor", constructor.getParameterCount(), 0);
        }
        for (Field field : LandBase.class.getDeclaredFields()) {
            Desk.due("is private: " + field.getName(), Modifier.isPrivate(field.getModifiers()), !field.getName().equals("BAD"));
        }
        Desk.due("final", Modifier.isFinal(LandBase.class.getModifiers()), true);
        Desk.due("classes in all, above 12", LandBase.class.getDeclaredClasses().length > 11, false);
        checkClass(LandBase.class);
        for (Class<?> inside : LandBase.class.getDeclaredClasses()) {
            Desk.due("static and not public: " + inside, Modifier.isStatic(inside.getModifiers()) && !Modifier.isPublic(inside.getModifiers()), true);
            checkClass(inside);
        }
        Desk.finish();
    }

    private static String signature(Method method) {
        StringBuilder text = new StringBuilder(method.getName()).append('(');
        for (Class<?> type : method.getParameterTypes()) {
            text.append(text.charAt(text.length() - 1) == '(' ? "" : ",").append(type.getSimpleName());
        }
        return text.append(')').append(method.getReturnType().getSimpleName()).toString();
    }

    private static void checkClass(Class<?> type) {
        int fields = 0;
        for (Field field : type.getDeclaredFields()) {
            boolean isStatic = Modifier.isStatic(field.getModifiers());
            fields += isStatic ? 0 : 1;
            Desk.due("static but not final: " + field, isStatic && !Modifier.isFinal(field.getModifiers()), false);
        }
        Desk.due("more than 20 fields: " + type, fields > 20, false);
        for (Method method : type.getDeclaredMethods()) {
            Desk.due("more than 7 parameters: " + method, method.getParameterCount() > 7, false);
        }
    }
}
