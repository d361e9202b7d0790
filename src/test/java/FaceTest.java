import java.lang.reflect.Constructor;
import java.lang.reflect.Field;
import java.lang.reflect.Member;
import java.lang.reflect.Method;
import java.lang.reflect.Modifier;
import java.util.ArrayList;
import java.util.Arrays;
import java.util.Collections;
import java.util.HashSet;
import java.util.List;
import java.util.Set;

/** The public face, as the document writes it: all of it, and nothing else that can be seen. */
public final class FaceTest {
    private static final String[] METHODS = {
        "post()", "sheet(int,int,int)", "lose(int)", "weigh(int,int,int)", "copy(int,int,int)",
        "pair(int,int)", "part(int,int)", "road(int,int)", "about(int,int)", "begin()", "put(int)",
        "at(int)", "move(int,int)", "cost(int)", "where(int)", "lawful()", "least(int)", "many(int)",
        "best(int,int)", "number(int)", "better(int,int)", "wall(int,int)", "stone(int,int)", "bag(int)",
        "lay(int)", "empty()", "good()", "rowOf()", "hunt(int)", "calm()", "plan()", "clean(int)",
        "undo()", "count(int)",
    };

    private static final Due due = new Due("FaceTest");

    public static void main(String[] args) throws Exception {
        constants();
        methods();
        constructors();
        nothingElse();
        due.ending();
    }

    private static void constants() throws Exception {
        String[] names = {"NONE", "BAD", "NO", "FULL", "LARGE", "NOTHING", "INDEX", "SIZE"};
        int[] values = {-1, -3, -4, -5, -6, -11, -13, -14};
        for (int i = 0; i < names.length; i++) {
            Field field = NarrowRows.class.getField(names[i]);
            due.is(names[i], field.getInt(null), values[i]);
            due.holds(names[i] + " is a static final int",
                    field.getType() == int.class && Modifier.isStatic(field.getModifiers())
                            && Modifier.isFinal(field.getModifiers()));
        }
        due.is("public fields", NarrowRows.class.getFields().length, names.length);
    }

    private static String signature(Method method) {
        List<String> types = new ArrayList<>();
        for (Class<?> type : method.getParameterTypes()) {
            types.add(type.getName());
        }
        return method.getName() + "(" + String.join(",", types) + ")";
    }

    private static void methods() {
        List<String> found = new ArrayList<>();
        for (Method method : NarrowRows.class.getDeclaredMethods()) {
            if (Modifier.isPublic(method.getModifiers())) {
                found.add(signature(method));
                due.holds(signature(method) + " answers an int and is not static",
                        method.getReturnType() == int.class && !Modifier.isStatic(method.getModifiers()));
            }
        }
        List<String> wanted = new ArrayList<>(Arrays.asList(METHODS));
        Collections.sort(found);
        Collections.sort(wanted);
        due.holds("the public methods are those of the document: " + found, found.equals(wanted));
    }

    private static void constructors() {
        Constructor<?>[] all = NarrowRows.class.getDeclaredConstructors();
        due.is("constructors", all.length, 1);
        due.is("the constructor's parameters", all[0].getParameterCount(), 0);
        due.holds("the constructor is public", Modifier.isPublic(all[0].getModifiers()));
        due.holds("the class is public and final", Modifier.isPublic(NarrowRows.class.getModifiers())
                && Modifier.isFinal(NarrowRows.class.getModifiers()));
    }

    private static void nothingElse() {
        Set<String> open = new HashSet<>();
        for (String method : METHODS) {
            open.add(method.substring(0, method.indexOf('(')));
        }
        List<Member> members = new ArrayList<>(Arrays.asList(NarrowRows.class.getDeclaredMethods()));
        members.addAll(Arrays.asList(NarrowRows.class.getDeclaredFields()));
        for (Member member : members) {
            int modifiers = member.getModifiers();
            due.holds(member.getName() + " is public or private",
                    Modifier.isPublic(modifiers) || Modifier.isPrivate(modifiers));
            due.holds(member.getName() + " is no private method with a public name",
                    !(member instanceof Method) || Modifier.isPublic(modifiers) || !open.contains(member.getName()));
        }
        for (Class<?> inside : NarrowRows.class.getDeclaredClasses()) {
            int modifiers = inside.getModifiers();
            due.holds(inside.getName() + " is static and not open",
                    Modifier.isStatic(modifiers) && !Modifier.isPublic(modifiers) && !Modifier.isProtected(modifiers));
        }
    }
}
