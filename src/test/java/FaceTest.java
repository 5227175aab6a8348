import java.lang.reflect.Constructor;
import java.lang.reflect.Field;
import java.lang.reflect.Method;
import java.lang.reflect.Modifier;
import java.util.Arrays;
import java.util.Set;
import java.util.TreeSet;

/** The public face is the document's and nothing more (LANGUAGE.md, rules 1 and 5). */
public final class FaceTest {
    private static final String[] FACE = {
        "int bath()", "int sign(int,int)", "int shut(int,int)", "int one(int,int,int)", "int type(int)",
        "int clear()", "int read()", "int goes(int,int)", "int minute(int)", "int undo()", "int of(int,int)",
        "int lane(int,int)", "int seconds(int,int,int)", "int lengths(int,int)", "int best(int)",
        "int cost(int,int)", "int where(int)", "int obey(int)", "int all(int)", "int changes(int)",
        "int order(int,int,int,int)", "int apart(int,int)", "int note(int,int,int,int,int)", "int forget()",
        "int is(int,int)", "int look(int)", "int touch(int,int)", "int counts(int,int,int)",
        "int mornings(int,int)", "long part(int)", "int image(int)", "int from(int)", "int status(int)",
        "int count(int)", "long digest()"};

    private static final Due due = new Due();

    public static void main(String[] args) {
        due.is("NONE", SwimLanes.NONE, -1);
        due.is("BAD", SwimLanes.BAD, -2);
        due.is("NO", SwimLanes.NO, -3);
        due.is("FULL", SwimLanes.FULL, -4);
        due.holds("public final", Modifier.isPublic(SwimLanes.class.getModifiers())
            && Modifier.isFinal(SwimLanes.class.getModifiers()));
        methods();
        fields();
        constructors();
        classesInside();
        due.end("FaceTest");
    }

    private static void methods() {
        Set<String> open = new TreeSet<>();
        Set<String> names = new TreeSet<>();
        for (Method m : SwimLanes.class.getDeclaredMethods()) {
            if (!Modifier.isPrivate(m.getModifiers())) {
                open.add(signature(m));
                names.add(m.getName());
                due.holds(m.getName() + " is public, not static", m.getModifiers() == Modifier.PUBLIC);
            }
        }
        Set<String> face = new TreeSet<>(Arrays.asList(FACE));
        if (!open.equals(face)) {
            System.out.println("methods: " + open);
        }
        due.holds("the methods are those of the document", open.equals(face));
        due.is("methods", FACE.length, 35);
        for (Class<?> c : SwimLanes.class.getDeclaredClasses()) {
            privateNames(c, names);
        }
        privateNames(SwimLanes.class, names);
    }

    private static void privateNames(Class<?> c, Set<String> names) {
        for (Method m : c.getDeclaredMethods()) {
            boolean inside = c != SwimLanes.class || Modifier.isPrivate(m.getModifiers());
            due.holds(c.getName() + "." + m.getName() + " bears no public name",
                !inside || !names.contains(m.getName()));
            due.holds(m.getName() + " has at most seven parameters", m.getParameterCount() <= 7);
        }
    }

    private static String signature(Method m) {
        StringBuilder text = new StringBuilder();
        text.append(m.getReturnType()).append(' ').append(m.getName()).append('(');
        for (int i = 0; i < m.getParameterCount(); i++) {
            text.append(i == 0 ? "" : ",").append(m.getParameterTypes()[i]);
        }
        return text.append(')').toString();
    }

    private static void fields() {
        Set<String> open = new TreeSet<>();
        for (Field f : SwimLanes.class.getDeclaredFields()) {
            if (!Modifier.isPrivate(f.getModifiers())) {
                open.add(f.getName());
            }
        }
        due.holds("the constants are those of the document",
            open.equals(new TreeSet<>(Arrays.asList("NONE", "BAD", "NO", "FULL"))));
        staticsAreFinal(SwimLanes.class);
    }

    private static void staticsAreFinal(Class<?> c) {
        int own = 0;
        for (Field f : c.getDeclaredFields()) {
            boolean isStatic = Modifier.isStatic(f.getModifiers());
            due.holds(f + " is final, if static", !isStatic || Modifier.isFinal(f.getModifiers()));
            own += isStatic ? 0 : 1;
        }
        due.holds(c + " has at most twenty fields", own <= 20);
    }

    private static void constructors() {
        Constructor<?>[] all = SwimLanes.class.getDeclaredConstructors();
        due.is("constructors", all.length, 1);
        due.is("its parameters", all[0].getParameterCount(), 0);
        due.holds("it is public", Modifier.isPublic(all[0].getModifiers()));
    }

    private static void classesInside() {
        Class<?>[] inside = SwimLanes.class.getDeclaredClasses();
        due.holds("at most twelve classes", inside.length < 12);
        for (Class<?> c : inside) {
            due.holds(c + " is static", Modifier.isStatic(c.getModifiers()));
            due.holds(c + " is not public", !Modifier.isPublic(c.getModifiers())
                && !Modifier.isProtected(c.getModifiers()));
            staticsAreFinal(c);
        }
    }
}
