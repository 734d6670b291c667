import java.lang.reflect.Constructor;
import java.lang.reflect.Field;
import java.lang.reflect.Method;
import java.lang.reflect.Modifier;
import java.util.TreeSet;

/** The public face is the document's: every constant, constructor and method, and nothing more. */
final class FaceTest {
    private static final String[] METHODS = {
        "int attempts()", "int bestChannel(int, int)", "int call(int, int)", "int decoded()",
        "int effective(int, int, int)", "int errorCount(int)", "int hangUp(int)", "int lastChannel()",
        "int lastUnanimous()", "int lastVoted()", "int link(int)", "int linkChannel(int)", "int listening(int)",
        "int netCall(int, int)", "int netChannel(int, int)", "int pass(int)", "int quality(int, int, int)",
        "int scan(int)", "int score(int, int, int)", "int setAgeing(int)", "int setNoise(int)",
        "int setQuality(int, int, int, int)", "int setScan(int, int)", "int sound(int, int)", "int time()",
        "int transmitted()", "int undo()", "int vote(int, int, int)", "long digest()"};
    private static final String[] CONSTANTS = {"ACKNOWLEDGE = 4", "CALL = 2", "INVALID = -2", "NONE = -1",
        "REJECTED = -3", "RESPONSE = 3", "SOUND = 1"};

    public static void main(String[] args) throws IllegalAccessException {
        constants();
        members();
        Check.finish("FaceTest");
    }

    private static void constants() {
        Check.due("NONE", LinkEstablisher.NONE, -1);
        Check.due("INVALID", LinkEstablisher.INVALID, -2);
        Check.due("REJECTED", LinkEstablisher.REJECTED, -3);
        Check.due("SOUND", LinkEstablisher.SOUND, 1);
        Check.due("CALL", LinkEstablisher.CALL, 2);
        Check.due("RESPONSE", LinkEstablisher.RESPONSE, 3);
        Check.due("ACKNOWLEDGE", LinkEstablisher.ACKNOWLEDGE, 4);
    }

    private static void members() throws IllegalAccessException {
        Class<LinkEstablisher> face = LinkEstablisher.class;
        Check.holds("public and final", face.getModifiers() == (Modifier.PUBLIC | Modifier.FINAL));
        Check.holds("no class above it but Object", face.getSuperclass() == Object.class);
        Check.due("interfaces", face.getInterfaces().length, 0);
        Constructor<?>[] constructors = face.getDeclaredConstructors();
        Check.due("constructors", constructors.length, 1);
        Check.due("parameters of the constructor", constructors[0].getParameterCount(), 0);
        Check.holds("the constructor is public", Modifier.isPublic(constructors[0].getModifiers()));
        same("methods", publicMethods(face), METHODS);
        same("constants", publicConstants(face), CONSTANTS);
        noHiddenMethodNamedAsAPublicOne(face, face);
        for (Class<?> inside : face.getDeclaredClasses()) {
            noHiddenMethodNamedAsAPublicOne(face, inside);
            int modifiers = inside.getModifiers();
            Check.holds(inside + " is private or package-visible, and static", Modifier.isStatic(modifiers)
                && !Modifier.isPublic(modifiers) && !Modifier.isProtected(modifiers));
        }
    }

    private static void noHiddenMethodNamedAsAPublicOne(Class<?> face, Class<?> where) {
        TreeSet<String> publicNames = new TreeSet<>();
        for (Method method : face.getMethods()) {
            publicNames.add(method.getName());
        }
        for (Method method : where.getDeclaredMethods()) {
            Check.holds(where.getSimpleName() + "." + method.getName() + " has a name of its own",
                Modifier.isPublic(method.getModifiers()) || !publicNames.contains(method.getName()));
        }
    }

    private static TreeSet<String> publicMethods(Class<?> face) {
        TreeSet<String> found = new TreeSet<>();
        for (Method method : face.getDeclaredMethods()) {
            if (Modifier.isPrivate(method.getModifiers()) || method.isSynthetic()) {
                continue;
            }
            Check.due(method.getName() + " is public and nothing else", method.getModifiers(), Modifier.PUBLIC);
            StringBuilder text = new StringBuilder();
            for (Class<?> type : method.getParameterTypes()) {
                text.append(text.length() == 0 ? "" : ", ").append(type.getName());
            }
            found.add(method.getReturnType() + " " + method.getName() + "(" + text + ")");
        }
        return found;
    }

    private static TreeSet<String> publicConstants(Class<?> face) throws IllegalAccessException {
        TreeSet<String> found = new TreeSet<>();
        for (Field field : face.getDeclaredFields()) {
            int modifiers = field.getModifiers();
            if (Modifier.isPrivate(modifiers) || field.isSynthetic()) {
                continue;
            }
            Check.due(field.getName() + " is a constant", modifiers,
                Modifier.PUBLIC | Modifier.STATIC | Modifier.FINAL);
            found.add(field.getName() + " = " + field.getInt(null));
        }
        return found;
    }

    private static void same(String what, TreeSet<String> found, String[] due) {
        for (String one : due) {
            Check.holds(what + " have " + one, found.remove(one));
        }
        Check.holds(what + " have no more, but there is " + found, found.isEmpty());
    }
}
