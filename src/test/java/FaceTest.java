import java.lang.reflect.Constructor;
import java.lang.reflect.Field;
import java.lang.reflect.Method;
import java.lang.reflect.Modifier;
import java.util.Arrays;
import java.util.Set;
import java.util.TreeSet;

/** The public face is the document's, and nothing else of the class can be seen (rules 1 and 5). */
public final class FaceTest {
    private static final String FACE = "pair4 phase2 ship3 of2 told2 open2 type1 strait0 count1 setOut1 idle1 pass1 undo0 "
        + "seed1 lots2 soonest3 full3 fog3 sure2 stones3 convoy3 rudder3 worth2 look2 forget0 fits1 foretell1 next2 image0 "
        + "restore0 judged6 film4 sheet3 drop1 item4 copy5";
    private static final String CONSTANTS = "BAD-1 NOT-2 FULL-3 NONE-4 NULL-11 CAST-12 INDEX-13 SIZE-14";
    private static final Due due = new Due();

    public static void main(String[] args) throws ReflectiveOperationException {
        due.is("public and final", ClashRocks.class.getModifiers(), Modifier.PUBLIC | Modifier.FINAL);
        methods();
        fields();
        Constructor<?>[] made = ClashRocks.class.getDeclaredConstructors();
        due.is("constructors", made.length, 1);
        due.is("a public one", made[0].getModifiers(), Modifier.PUBLIC);
        due.is("without parameters", made[0].getParameterCount(), 0);
        for (Class<?> inside : ClashRocks.class.getDeclaredClasses()) {
            due.is(inside + " is static", inside.getModifiers() & Modifier.STATIC, Modifier.STATIC);
            due.is(inside + " is hidden", inside.getModifiers() & (Modifier.PUBLIC | Modifier.PROTECTED), 0);
        }
        due.end();
    }

    private static void methods() {
        Set<String> wants = new TreeSet<>(Arrays.asList(FACE.split(" ")));
        Set<String> seen = new TreeSet<>();
        Set<String> hidden = new TreeSet<>();
        for (Method method : ClashRocks.class.getDeclaredMethods()) {
            if (Modifier.isPrivate(method.getModifiers())) {
                hidden.add(method.getName());
                continue;
            }
            seen.add(method.getName() + method.getParameterCount());
            due.is(method + " is public alone", method.getModifiers(), Modifier.PUBLIC);
            due.is(method + " answers an int", method.getReturnType() == int.class ? 1 : 0, 1);
            for (Class<?> parameter : method.getParameterTypes()) {
                boolean isItem = method.getName().equals("item");
                due.is(method + " takes numbers", parameter == int.class || isItem && parameter == long.class ? 1 : 0, 1);
            }
        }
        due.is("the face is " + seen, seen.equals(wants) ? 1 : 0, 1);
        for (Class<?> inside : ClashRocks.class.getDeclaredClasses()) {
            for (Method method : inside.getDeclaredMethods()) {
                hidden.add(method.getName());
            }
        }
        for (String want : wants) {
            String name = want.substring(0, want.length() - 1);
            due.is("no hidden method is called " + name, hidden.contains(name) ? 1 : 0, 0);
        }
    }

    private static void fields() throws IllegalAccessException {
        StringBuilder constants = new StringBuilder();
        for (Field field : ClashRocks.class.getDeclaredFields()) {
            int modifiers = field.getModifiers();
            if (Modifier.isPrivate(modifiers)) {
                due.is(field + ", static ones are final", Modifier.isStatic(modifiers) && !Modifier.isFinal(modifiers) ? 1 : 0, 0);
                continue;
            }
            due.is(field + " is a constant", modifiers, Modifier.PUBLIC | Modifier.STATIC | Modifier.FINAL);
            constants.append(constants.length() == 0 ? "" : " ").append(field.getName()).append(field.getInt(null));
        }
        due.is("the constants are " + constants, constants.toString().equals(CONSTANTS) ? 1 : 0, 1);
    }
}
