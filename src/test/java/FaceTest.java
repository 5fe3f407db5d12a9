import java.lang.reflect.Constructor;
import java.lang.reflect.Field;
import java.lang.reflect.Method;
import java.lang.reflect.Modifier;
import java.util.HashSet;
import java.util.Set;
import java.util.TreeSet;

/** The public face, as it is seen from outside: what is in it, and that all else is hidden. */
public final class FaceTest {
    private static final String[] METHODS = {
        "type(int)", "clear()", "town()", "room(int,int)", "child(int,int)", "work(int,int)", "now(int)",
        "bears(int,int)", "year()", "joins(int,int)", "builds(int)", "undo()",
        "fills(int)", "carry(int,int)", "join(int)", "elder(int)", "odds(int,int)",
        "sees(int,int)", "forget()", "ages(int)", "next()",
        "rate(int,int)", "keep(int)", "back(int)", "count(int)", "trace()"};

    public static void main(String[] args) {
        Check.promise(0, "the public face");
        methods();
        othersAreHidden();
        Check.end();
    }

    private static void methods() {
        Set<String> open = new TreeSet<>();
        for (Method m : RoomBorn.class.getDeclaredMethods()) {
            if (!Modifier.isPrivate(m.getModifiers())) {
                open.add(signature(m));
                String returns = m.getName().equals("trace") ? "long" : "int";
                Check.yes(m + " returns " + returns, m.getReturnType().getName().equals(returns));
                Check.yes(m + " is public alone", m.getModifiers() == Modifier.PUBLIC);
            }
        }
        Check.yes("the methods are these: " + open, open.equals(new TreeSet<>(Set.of(METHODS))));
        Constructor<?>[] constructors = RoomBorn.class.getDeclaredConstructors();
        Check.due("constructors", 1, constructors.length);
        Check.due("parameters of the constructor", 0, constructors[0].getParameterCount());
        Check.yes("it is public", Modifier.isPublic(constructors[0].getModifiers()));
        Check.yes("the class is final", Modifier.isFinal(RoomBorn.class.getModifiers()));
    }

    private static String signature(Method m) {
        StringBuilder text = new StringBuilder(m.getName()).append('(');
        for (int i = 0; i < m.getParameterCount(); i++) {
            text.append(i == 0 ? "" : ",").append(m.getParameterTypes()[i].getName());
        }
        return text.append(')').toString();
    }

    private static void othersAreHidden() {
        Set<String> constants = new HashSet<>(Set.of("BAD", "STATE", "FULL", "NONE", "NO"));
        for (Field f : RoomBorn.class.getDeclaredFields()) {
            boolean open = !Modifier.isPrivate(f.getModifiers());
            Check.yes(f + " is hidden, or a constant of the document", open == constants.remove(f.getName()));
            if (Modifier.isStatic(f.getModifiers())) {
                Check.yes(f + " is final", Modifier.isFinal(f.getModifiers()));
            }
        }
        Check.yes("no constant is missing: " + constants, constants.isEmpty());
        Set<String> names = new HashSet<>();
        for (String method : METHODS) {
            names.add(method.substring(0, method.indexOf('(')));
        }
        for (Class<?> inside : RoomBorn.class.getDeclaredClasses()) {
            Check.yes(inside + " is static", Modifier.isStatic(inside.getModifiers()));
            Check.yes(inside + " is hidden", !Modifier.isPublic(inside.getModifiers()));
            for (Method m : inside.getDeclaredMethods()) {
                Check.yes(m + " bears no name of a public one", !names.contains(m.getName()));
            }
        }
        for (Method m : RoomBorn.class.getDeclaredMethods()) {
            if (Modifier.isPrivate(m.getModifiers())) {
                Check.yes(m + " bears no name of a public one", !names.contains(m.getName()));
            }
        }
    }
}
