import java.lang.reflect.Constructor;
import java.lang.reflect.Field;
import java.lang.reflect.Method;
import java.lang.reflect.Modifier;
import java.util.Set;
import java.util.TreeSet;

/** The public face: exactly what the document lists, and nothing else that others could see. */
public final class FaceTest {
    private static final Set<String> METHODS = Set.of(
            "int variable()", "int number(int)", "int atom(int)", "int push(int,int)", "int record(int)",
            "int thing(int)", "boolean tell(int,int)", "int ask(int,int)", "int hangs(int,int,int)",
            "boolean need(int)", "int touched(int)", "int look(int,long,int)", "int feature(int,long,int)",
            "int part(int,int)", "int set(int,int,int)", "boolean like(int,int)", "int mark(int)", "int sweep()",
            "int clear()", "int count(int)");

    public static void main(String[] args) {
        Check.due("the class is public and final", TreeStore.class.getModifiers(), Modifier.PUBLIC | Modifier.FINAL);
        methods();
        fields();
        constructors();
        classesInside();
        Check.due("NONE", TreeStore.NONE, -1);
        Check.due("FULL", TreeStore.FULL, -2);
        Check.finish();
    }

    private static void methods() {
        Set<String> seen = new TreeSet<>();
        Set<String> publicNames = new TreeSet<>();
        for (Method method : TreeStore.class.getDeclaredMethods()) {
            if (!Modifier.isPrivate(method.getModifiers())) {
                Check.due(method + " has modifiers", method.getModifiers(), Modifier.PUBLIC);
                seen.add(signature(method));
                publicNames.add(method.getName());
            }
        }
        Check.due("the methods are " + seen, seen.equals(METHODS), true);
        for (Method method : TreeStore.class.getDeclaredMethods()) {
            boolean hidden = Modifier.isPrivate(method.getModifiers());
            Check.due(method + " bears a public name", hidden && publicNames.contains(method.getName()), false);
        }
    }

    private static String signature(Method method) {
        StringBuilder text = new StringBuilder(method.getReturnType().getName());
        text.append(' ').append(method.getName()).append('(');
        for (int i = 0; i < method.getParameterCount(); i++) {
            text.append(i == 0 ? "" : ",").append(method.getParameterTypes()[i].getName());
        }
        return text.append(')').toString();
    }

    private static void fields() {
        for (Field field : TreeStore.class.getDeclaredFields()) {
            boolean constant = field.getName().equals("NONE") || field.getName().equals("FULL");
            int modifiers = field.getModifiers();
            Check.due(field + " is private", Modifier.isPrivate(modifiers), !constant);
            Check.due(field + " is public", Modifier.isPublic(modifiers), constant);
            Check.due(field + " is static and not final", Modifier.isStatic(modifiers) && !Modifier.isFinal(modifiers),
                    false);
        }
    }

    private static void constructors() {
        Constructor<?>[] all = TreeStore.class.getDeclaredConstructors();
        Check.due("constructors", all.length, 1);
        Check.due("the constructor's parameters", all[0].getParameterCount(), 0);
        Check.due("the constructor's modifiers", all[0].getModifiers(), Modifier.PUBLIC);
    }

    private static void classesInside() {
        for (Class<?> inside : TreeStore.class.getDeclaredClasses()) {
            int modifiers = inside.getModifiers();
            Check.due(inside + " is static", Modifier.isStatic(modifiers), true);
            Check.due(inside + " is seen outside", Modifier.isPublic(modifiers) || Modifier.isProtected(modifiers),
                    false);
        }
    }
}
