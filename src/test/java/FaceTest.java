import java.lang.reflect.Constructor;
import java.lang.reflect.Field;
import java.lang.reflect.Method;
import java.lang.reflect.Modifier;
import java.util.ArrayList;
import java.util.Arrays;
import java.util.List;

/** The face of the class, as the chapter "The public face" tells it, and the rules about members. */
public final class FaceTest {
    private static final String BOUNDS = "IndexOutOfBoundsException";
    private static final String ARGUMENT = "IllegalArgumentException";
    private static final String STATE = "IllegalStateException";
    private static final String ELEMENT = "NoSuchElementException";
    private static final String[] FACE = {
        "int start(int)",
        "int setTerrain(int,int,boolean) " + BOUNDS + " " + ARGUMENT + " " + STATE,
        "boolean setSource(int,int,boolean) " + BOUNDS,
        "int set(boolean,int) " + ARGUMENT,
        "int cell(int,int) " + BOUNDS + " " + ARGUMENT,
        "int neighbor(int,int) " + BOUNDS + " " + ELEMENT,
        "int distance(int,int) " + BOUNDS,
        "int count(int) " + ARGUMENT,
        "int add(int,int,int,int) " + BOUNDS + " " + ARGUMENT + " " + STATE,
        "int unit(int,int) " + BOUNDS + " " + ARGUMENT,
        "int known(int) " + BOUNDS,
        "long cells(int,int) " + BOUNDS + " " + ARGUMENT,
        "boolean isSeen(int,int) " + BOUNDS,
        "int supplyCost(int,int) " + BOUNDS + " " + ELEMENT,
        "long reach(int) " + BOUNDS,
        "int cost(int,int) " + BOUNDS + " " + ELEMENT,
        "int way(int,int,int) " + BOUNDS + " " + ELEMENT,
        "int move(int,int) " + BOUNDS + " " + ARGUMENT + " " + STATE + " UnsupportedOperationException",
        "int odds(int,int,boolean) " + BOUNDS + " " + ARGUMENT + " " + ELEMENT,
        "int attack(int,int) " + BOUNDS + " " + ARGUMENT + " " + ELEMENT,
        "int endTurn()",
        "int account(int,int) " + BOUNDS + " " + ARGUMENT,
        "double balance() ArithmeticException",
        "int report(int,int) " + ELEMENT + " " + ARGUMENT,
        "int feed(char) " + STATE,
        "int readMap() " + STATE,
        "char text(int) " + BOUNDS,
        "int undo() " + STATE,
        "int save()",
        "int restore() " + STATE,
    };

    public static void main(String[] args) {
        Class<?> face = HexCampaign.class;
        Check.same("package", face.getPackageName(), "");
        Check.same("modifiers", face.getModifiers(), Modifier.PUBLIC | Modifier.FINAL);
        Check.same("constructors", face.getDeclaredConstructors().length, 1);
        for (Constructor<?> c : face.getDeclaredConstructors()) {
            Check.same("constructor", c.toGenericString(), "public HexCampaign()");
        }
        List<String> dues = new ArrayList<>(Arrays.asList(FACE));
        dues.sort(null);
        List<String> gots = new ArrayList<>();
        List<String> names = new ArrayList<>();
        for (Method m : face.getDeclaredMethods()) {
            if (!Modifier.isPrivate(m.getModifiers())) {
                gots.add(told(m));
                names.add(m.getName());
                Check.same("modifiers of " + m.getName(), m.getModifiers(), Modifier.PUBLIC);
            }
        }
        gots.sort(null);
        Check.same("methods", gots, dues);
        members(face, names);
        Check.same("classes inside", face.getDeclaredClasses().length <= 12, true);
        for (Class<?> inside : face.getDeclaredClasses()) {
            int modifiers = inside.getModifiers();
            Check.same(inside + " is static", Modifier.isStatic(modifiers), true);
            Check.same(inside + " is hidden", Modifier.isPublic(modifiers) || Modifier.isProtected(modifiers), false);
            members(inside, names);
        }
        Check.end();
    }

    private static String told(Method m) {
        StringBuilder all = new StringBuilder(m.getReturnType().getSimpleName());
        all.append(' ').append(m.getName()).append('(');
        for (Class<?> type : m.getParameterTypes()) {
            all.append(all.charAt(all.length() - 1) == '(' ? "" : ",").append(type.getSimpleName());
        }
        all.append(')');
        for (Class<?> type : m.getExceptionTypes()) {
            all.append(' ').append(type.getSimpleName());
        }
        return all.toString();
    }

    /** No field of the face is open, no static one can change, and no hidden method has a public name. */
    private static void members(Class<?> owner, List<String> names) {
        for (Field f : owner.getDeclaredFields()) {
            int modifiers = f.getModifiers();
            Check.same(f + " is final", !Modifier.isStatic(modifiers) || Modifier.isFinal(modifiers), true);
            Check.same(f + " is private", owner != HexCampaign.class || Modifier.isPrivate(modifiers), true);
        }
        for (Method m : owner.getDeclaredMethods()) {
            boolean isFace = owner == HexCampaign.class && Modifier.isPublic(m.getModifiers());
            Check.same(m + " has a name of its own", isFace || !names.contains(m.getName()), true);
            Check.same(m + " takes at most seven", m.getParameterCount() <= 7, true);
        }
    }
}
