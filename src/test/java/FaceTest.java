import java.lang.reflect.Constructor;
import java.lang.reflect.Field;
import java.lang.reflect.Method;
import java.lang.reflect.Modifier;
import java.util.Arrays;
import java.util.Set;
import java.util.TreeSet;

/** The public face: just what the document shows, and no member more that others can see. */
public final class FaceTest {
    private static final String[] METHODS = {
        "int reel(int,int,int)", "int lose(int)", "int put(int,int,int,int)", "int get(int,int,int)",
        "int copy(int,int,int,int,int)", "int run(int,int)", "int way(int,int)", "int felt(int,int,int)",
        "int joint(int)", "int wipe()", "int costs(int,int)", "int match(int)", "int paired(int,int)",
        "int mark(int,int,int,int,int)", "int clear(int)", "int about(int,int,int)", "int near(int,int)",
        "int groups(int)", "int group(int,int,int)", "int alone(int)", "int pairing(int)", "int twin(int)",
        "int tool(int,int,int)", "int growth(int,int)", "int work(int,int)", "int yearly(int,int)",
        "int plan()", "int years()", "int when(int)", "int trap(int,boolean)", "int count(int)", "long digest()",
    };

    public static void main(String[] args) throws Exception {
        Due due = new Due();
        due.is("methods in the list", METHODS.length, 32);
        due.is("NONE", PigLine.NONE, -1);
        due.is("BAD", PigLine.BAD, -2);
        due.is("FULL", PigLine.FULL, -3);
        due.is("NOT", PigLine.NOT, -4);
        int type = PigLine.class.getModifiers();
        due.holds("the class is public and final", Modifier.isPublic(type) && Modifier.isFinal(type));
        methods(due);
        fields(due);
        for (Constructor<?> made : PigLine.class.getDeclaredConstructors()) {
            due.holds("the one constructor is public and takes nothing",
                    Modifier.isPublic(made.getModifiers()) && made.getParameterCount() == 0);
        }
        for (Class<?> inner : PigLine.class.getDeclaredClasses()) {
            int how = inner.getModifiers();
            due.holds(inner + " is static and not public",
                    Modifier.isStatic(how) && !Modifier.isPublic(how) && !Modifier.isProtected(how));
            due.is(inner + " has no class inside it", inner.getDeclaredClasses().length, 0);
            fewFields(due, inner);
        }
        fewFields(due, PigLine.class);
        due.end();
    }

    private static void methods(Due due) {
        Set<String> seen = new TreeSet<>();
        Set<String> faceNames = new TreeSet<>();
        for (Method method : PigLine.class.getDeclaredMethods()) {
            if (Modifier.isPublic(method.getModifiers())) {
                seen.add(told(method));
                faceNames.add(method.getName());
                due.holds(method + " is of an object", !Modifier.isStatic(method.getModifiers()));
            } else {
                due.holds(method + " is private", Modifier.isPrivate(method.getModifiers()));
            }
        }
        due.holds("public methods are those of the document", seen.equals(new TreeSet<>(Arrays.asList(METHODS))));
        for (Method method : PigLine.class.getDeclaredMethods()) {
            due.holds(method + " takes seven at most", method.getParameterCount() <= 7);
            due.holds(method + " has a name of its own",
                    Modifier.isPublic(method.getModifiers()) || !faceNames.contains(method.getName()));
        }
        for (Class<?> inner : PigLine.class.getDeclaredClasses()) {
            for (Method method : inner.getDeclaredMethods()) {
                due.holds(method + " has a name of its own", !faceNames.contains(method.getName()));
                due.holds(method + " takes seven at most", method.getParameterCount() <= 7);
            }
        }
    }

    private static void fewFields(Due due, Class<?> type) {
        int beside = 0;
        for (Field field : type.getDeclaredFields()) {
            boolean isStatic = Modifier.isStatic(field.getModifiers());
            beside += isStatic ? 0 : 1;
            due.holds(field + ": a static one is final", !isStatic || Modifier.isFinal(field.getModifiers()));
        }
        due.holds(type + " has some twenty fields beside its constants", beside <= 20);
    }

    private static String told(Method method) {
        StringBuilder text = new StringBuilder(method.getReturnType().getName());
        text.append(' ').append(method.getName()).append('(');
        for (Class<?> type : method.getParameterTypes()) {
            text.append(text.charAt(text.length() - 1) == '(' ? "" : ",").append(type.getName());
        }
        return text.append(')').toString();
    }

    private static void fields(Due due) {
        Set<String> open = new TreeSet<>();
        for (Field field : PigLine.class.getDeclaredFields()) {
            int how = field.getModifiers();
            if (!Modifier.isPrivate(how)) {
                open.add(field.getName());
                due.holds(field + " is a public constant",
                        Modifier.isPublic(how) && Modifier.isStatic(how) && field.getType() == int.class);
            }
        }
        due.holds("public constants are those of the document",
                open.equals(new TreeSet<>(Arrays.asList("NONE", "BAD", "FULL", "NOT"))));
    }
}
