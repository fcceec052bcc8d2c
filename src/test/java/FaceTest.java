import java.lang.reflect.Constructor;
import java.lang.reflect.Field;
import java.lang.reflect.Method;
import java.lang.reflect.Modifier;
import java.util.ArrayList;
import java.util.List;
import java.util.Set;
import java.util.TreeSet;

/** The document's public face, and what LANGUAGE.md says of members and classes. */
public final class FaceTest {
    private static final String BAD = "IllegalArgumentException";
    private static final String REFUSED = "IllegalStateException";
    private static final String MISSING = "NoSuchElementException";
    private static final String FULL = "IndexOutOfBoundsException";
    private static final String DAMAGED = "ArithmeticException";
    private static int wrong;

    public static void main(String[] args) {
        Set<String> due = new TreeSet<>(List.of(
                face("int feed(int,int,int,int,int)", FULL),
                face("int end(int)", BAD),
                face("int set(int,int,int,long)", BAD, REFUSED, MISSING, FULL),
                face("int put(int,int,int,int,long)", BAD, REFUSED, MISSING, FULL),
                face("int insert(int,int,int,int,long)", BAD, REFUSED, MISSING, FULL),
                face("int splice(int,int,int,int)", BAD, REFUSED, MISSING, FULL),
                face("int erase(int,int,int)", BAD, REFUSED, MISSING, FULL),
                face("int add(int,int,int,long)", BAD, REFUSED, MISSING, FULL),
                face("int read(int,int)", BAD, REFUSED, MISSING, FULL),
                face("int commit(int)", BAD, REFUSED, FULL),
                face("int drop(int)", BAD),
                face("int send(int,int,int,int)", BAD, REFUSED, MISSING),
                face("int join(int,int)", BAD, REFUSED),
                face("int look(int,int,int)", BAD, MISSING),
                face("int object(int,int,int)", BAD, MISSING),
                face("int key(int,int,int,int)", BAD, MISSING),
                face("long candidate(int,int,int,int,int)", BAD, MISSING),
                face("int letter(int,int,int)", BAD, MISSING),
                face("int element(int,int,int)", BAD, MISSING),
                face("int index(int,int,int)", BAD, MISSING),
                face("int find(int)", BAD, MISSING),
                face("int text(int,int)", BAD, REFUSED, MISSING),
                face("int save(int)", BAD, REFUSED),
                face("int load(int)", BAD, REFUSED, DAMAGED),
                face("void harm(int,int)", BAD, MISSING),
                face("long out(int)", BAD),
                face("int count(int,int)", BAD),
                face("int told(int)")));
        Set<String> got = new TreeSet<>();
        Set<String> names = new TreeSet<>();
        for (Method method : JoinedTrees.class.getDeclaredMethods()) {
            if (Modifier.isPublic(method.getModifiers())) {
                got.add(written(method));
                names.add(method.getName());
            }
        }
        for (String method : due) {
            check(got.contains(method), "the face needs " + method);
        }
        for (String method : got) {
            check(due.contains(method), "the face hasn't " + method);
        }
        int modifiers = JoinedTrees.class.getModifiers();
        check(Modifier.isPublic(modifiers) && Modifier.isFinal(modifiers), "the class is public and final");
        Constructor<?>[] constructors = JoinedTrees.class.getDeclaredConstructors();
        check(constructors.length == 1 && Modifier.isPublic(constructors[0].getModifiers())
                && constructors[0].getParameterCount() == 0, "one public constructor without parameters");
        checkClasses(names);
        System.out.println(wrong == 0 ? "the face is the document's" : wrong + " things of the face are wrong");
        System.exit(wrong == 0 ? 0 : 1);
    }

    private static void checkClasses(Set<String> faceNames) {
        List<Class<?>> classes = new ArrayList<>(List.of(JoinedTrees.class.getDeclaredClasses()));
        check(classes.size() <= 11, "at most some twelve classes");
        for (Class<?> inside : classes) {
            check(Modifier.isStatic(inside.getModifiers()), inside + " is static");
            check(!Modifier.isPublic(inside.getModifiers()) && !Modifier.isProtected(inside.getModifiers()), inside + " isn't seen outside");
            check(inside.getDeclaredClasses().length == 0, inside + " has no classes inside");
        }
        classes.add(JoinedTrees.class);
        for (Class<?> one : classes) {
            boolean outer = one == JoinedTrees.class;
            int fields = 0;
            for (Field field : one.getDeclaredFields()) {
                boolean fixed = Modifier.isStatic(field.getModifiers());
                check(!fixed || Modifier.isFinal(field.getModifiers()), field + " is final");
                check(!outer || Modifier.isPrivate(field.getModifiers()), field + " is private");
                fields += fixed ? 0 : 1;
            }
            check(fields <= 20, one + " has some twenty fields");
            for (Method method : one.getDeclaredMethods()) {
                check(method.getParameterCount() <= 7, method + " has at most seven parameters");
                if (!method.isSynthetic() && !(outer && Modifier.isPublic(method.getModifiers()))) {
                    check(!faceNames.contains(method.getName()), method + " has a name of the face");
                    check(!outer || Modifier.isPrivate(method.getModifiers()), method + " is private");
                }
            }
        }
    }

    private static String face(String method, String... thrown) {
        return method + " throws " + new TreeSet<>(List.of(thrown));
    }

    private static String written(Method method) {
        StringBuilder text = new StringBuilder(method.getReturnType() + " " + method.getName() + "(");
        String comma = "";
        for (Class<?> type : method.getParameterTypes()) {
            text.append(comma).append(type);
            comma = ",";
        }
        Set<String> thrown = new TreeSet<>();
        for (Class<?> type : method.getExceptionTypes()) {
            thrown.add(type.getSimpleName());
        }
        return text + ") throws " + thrown;
    }

    private static void check(boolean right, String what) {
        if (!right) {
            wrong++;
            System.out.println("not so: " + what);
        }
    }
}
