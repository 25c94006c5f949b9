import java.lang.reflect.Constructor;
import java.lang.reflect.Field;
import java.lang.reflect.Method;
import java.lang.reflect.Modifier;
import java.util.Set;
import java.util.TreeSet;

/** The public face is the document's, and nothing else can be seen from outside. */
public final class FaceTest {
    private static final String METHODS = "person/1 love/2 least/1 of/2 has/3 at/2 type/1 read/0 count/1 sell/4 seize/2 "
        + "give/3 make/3 drift/1 undo/0 seed/1 gain/3 middle/3 best/1 market/1 longest/2 stretch/3 more/4 envy/2 both/2 "
        + "hands/1 rain/4 image/0 restore/0 told/6 film/5 sheet/3 drop/1 item/4 copy/5";
    private static final String CONSTANTS =
        "BAD=-1 CAST=-12 FULL=-3 INDEX=-13 NONE=-4 NOT=-2 NULL=-11 SIZE=-14";

    public static void main(String[] args) throws IllegalAccessException {
        Due.due("the class is final", Modifier.isFinal(SundayMarket.class.getModifiers()) ? 1 : 0, 1);
        methods();
        fields();
        constructors();
        Due.end();
    }

    private static void methods() {
        Set<String> found = new TreeSet<>();
        Set<String> hidden = new TreeSet<>();
        for (Method method : SundayMarket.class.getDeclaredMethods()) {
            if (Modifier.isPrivate(method.getModifiers())) {
                hidden.add(method.getName());
            } else if (!method.isSynthetic()) {
                found.add(method.getName() + "/" + method.getParameterCount());
                Due.same("what " + method.getName() + " answers", method.getReturnType().toString(), "int");
                Due.due(method.getName() + " is public", Modifier.isPublic(method.getModifiers()) ? 1 : 0, 1);
            }
        }
        Due.same("the methods", found.toString(), new TreeSet<>(Set.of(METHODS.split(" "))).toString());
        for (String method : found) {
            String name = method.substring(0, method.indexOf('/'));
            Due.due("a private " + name, hidden.contains(name) ? 1 : 0, 0);
        }
    }

    private static void fields() throws IllegalAccessException {
        Set<String> found = new TreeSet<>();
        for (Field field : SundayMarket.class.getDeclaredFields()) {
            if (!Modifier.isPrivate(field.getModifiers())) {
                found.add(field.getName() + "=" + field.getInt(null));
            }
            if (Modifier.isStatic(field.getModifiers())) {
                Due.due(field.getName() + " is final", Modifier.isFinal(field.getModifiers()) ? 1 : 0, 1);
            }
        }
        Due.same("the constants", String.join(" ", found), CONSTANTS);
    }

    private static void constructors() {
        Constructor<?>[] all = SundayMarket.class.getDeclaredConstructors();
        Due.due("one constructor", all.length, 1);
        Due.due("without parameters", all[0].getParameterCount(), 0);
        Due.due("it is public", Modifier.isPublic(all[0].getModifiers()) ? 1 : 0, 1);
    }
}
