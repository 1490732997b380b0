import java.lang.reflect.Constructor;
import java.lang.reflect.Field;
import java.lang.reflect.Method;
import java.lang.reflect.Modifier;
import java.util.TreeSet;

/** The public face: its constants, its constructor, its methods, and nothing else that others can see. */
public final class FaceTest {
    private static final String METHODS = "[add(int,int), best(int), bitsWith(int,int), cheapest(int), count(int), cut(int),"
        + " entry(int,int), fault(), load(), ofCode(int,int), put(long), read(int), reading(int), restore(int), save(int),"
        + " set(int,int), sign(int), spoil(int,int), tenderest(int), undo(), wipe()]";
    private static final String CONSTANTS = "[BAD_TEXT=-3, BAD_VALUE=-2, CLEAR=8, END=9, NONE=-6, NOT_POSSIBLE=-5,"
        + " NO_SUCH=-1, POLICY=1, TOO_MANY=-4, WIDEST=0, WINDOW=2]";

    public static void main(String[] arguments) throws Exception {
        Due due = new Due();
        due.is("the class is public and final", GrowingBook.class.getModifiers(), Modifier.PUBLIC | Modifier.FINAL);
        due.same("the methods", methods(), METHODS);
        due.same("the constants", constants(), CONSTANTS);
        int constructors = 0;
        for (Constructor<?> constructor : GrowingBook.class.getDeclaredConstructors()) {
            constructors++;
            due.is("parameters of the constructor", constructor.getParameterCount(), 0);
            due.is("the constructor", constructor.getModifiers(), Modifier.PUBLIC);
        }
        due.is("constructors", constructors, 1);
        for (Class<?> inside : GrowingBook.class.getDeclaredClasses()) {
            due.is(inside + " is static", Modifier.isStatic(inside.getModifiers()) ? 1 : 0, 1);
            due.is(inside + " is not public", inside.getModifiers() & (Modifier.PUBLIC | Modifier.PROTECTED), 0);
        }
        due.end("FaceTest");
    }

    private static String methods() {
        TreeSet<String> found = new TreeSet<>();
        for (Method method : GrowingBook.class.getDeclaredMethods()) {
            if (!Modifier.isPrivate(method.getModifiers())) {
                StringBuilder text = new StringBuilder(method.getName()).append('(');
                for (Class<?> type : method.getParameterTypes()) {
                    text.append(text.charAt(text.length() - 1) == '(' ? "" : ",").append(type.getName());
                }
                boolean fits = method.getReturnType() == int.class && method.getModifiers() == Modifier.PUBLIC;
                found.add(text.append(fits ? ")" : ") of another kind").toString());
            }
        }
        return found.toString();
    }

    private static String constants() throws IllegalAccessException {
        TreeSet<String> found = new TreeSet<>();
        for (Field field : GrowingBook.class.getDeclaredFields()) {
            if (!Modifier.isPrivate(field.getModifiers())) {
                boolean fits = field.getType() == int.class
                    && field.getModifiers() == (Modifier.PUBLIC | Modifier.STATIC | Modifier.FINAL);
                found.add(field.getName() + (fits ? "=" + field.getInt(null) : " of another kind"));
            }
        }
        return found.toString();
    }
}
