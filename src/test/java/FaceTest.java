import java.lang.reflect.Constructor;
import java.lang.reflect.Field;
import java.lang.reflect.Method;
import java.lang.reflect.Modifier;
import java.util.Arrays;
import java.util.TreeSet;

/** The public face is the document's, no more and no less. */
public final class FaceTest {
    private static final String[] FACE = {
        "int feed(int,int,int,int,int)", "int load(int) IllegalArgumentException", "int errorPosition()",
        "int flowCount()", "int ruleCount()", "int packetCount()", "int transmissionCount()", "int clock()",
        "int credit()", "int classify(int,int,int) IllegalArgumentException",
        "int flow(int,int) NoSuchElementException", "long virtualTime(int) NoSuchElementException",
        "boolean isIdle(int) NoSuchElementException", "int queued(int,int) NoSuchElementException",
        "int nextFlow()", "int packet(int,int) NoSuchElementException",
        "int transmission(int,int) NoSuchElementException", "long charge(int) NoSuchElementException",
        "int outstanding(int) NoSuchElementException", "int arrive(int,int,int,int) IllegalArgumentException",
        "int run(int) IllegalArgumentException",
        "int setWeight(int,int) NoSuchElementException IllegalArgumentException",
        "long audit(int,int,int) NoSuchElementException IllegalArgumentException", "long worst()",
        "long spread()", "double share(int) NoSuchElementException", "float meanDelay(int) NoSuchElementException",
        "int forecast(int,int) NoSuchElementException IllegalArgumentException",
        "int weightFor(int,int) NoSuchElementException IllegalArgumentException",
        "int format(int) NoSuchElementException", "int formattedByte(int)", "int undoCount()", "int undo()",
        "void saveSnapshot()", "boolean restoreSnapshot()", "int query(int) IllegalArgumentException",
    };

    public static void main(String[] args) {
        TreeSet<String> found = new TreeSet<>();
        TreeSet<String> publicNames = new TreeSet<>();
        TreeSet<String> privateNames = new TreeSet<>();
        for (Method method : PacketScheduler.class.getDeclaredMethods()) {
            if (Modifier.isPrivate(method.getModifiers())) {
                privateNames.add(method.getName());
            } else {
                found.add(described(method));
                publicNames.add(method.getName());
                Check.due(method.getName() + " is public", Modifier.isPublic(method.getModifiers()), true);
                Check.due(method.getName() + " is static", Modifier.isStatic(method.getModifiers()), false);
            }
        }
        Check.due("the methods", found, new TreeSet<>(Arrays.asList(FACE)));
        for (Class<?> inside : PacketScheduler.class.getDeclaredClasses()) {
            Check.due(inside + " is static", Modifier.isStatic(inside.getModifiers()), true);
            Check.due(inside + " is public", Modifier.isPublic(inside.getModifiers()), false);
            for (Method method : inside.getDeclaredMethods()) {
                privateNames.add(method.getName());
            }
        }
        privateNames.retainAll(publicNames);
        Check.due("private methods with a public one's name", privateNames, new TreeSet<String>());
        checkFields();
        Constructor<?>[] constructors = PacketScheduler.class.getDeclaredConstructors();
        Check.due("constructors", constructors.length, 1);
        Check.due("parameters", constructors[0].getParameterCount(), 0);
        Check.due("public constructor", Modifier.isPublic(constructors[0].getModifiers()), true);
        Check.due("final class", Modifier.isFinal(PacketScheduler.class.getModifiers()), true);
        Check.end("FaceTest");
    }

    private static String described(Method method) {
        StringBuilder text = new StringBuilder(method.getReturnType().getSimpleName());
        text.append(' ').append(method.getName()).append('(');
        String between = "";
        for (Class<?> parameter : method.getParameterTypes()) {
            text.append(between).append(parameter.getSimpleName());
            between = ",";
        }
        text.append(')');
        for (Class<?> exception : method.getExceptionTypes()) {
            text.append(' ').append(exception.getSimpleName());
        }
        return text.toString();
    }

    private static void checkFields() {
        TreeSet<String> found = new TreeSet<>();
        for (Field field : PacketScheduler.class.getDeclaredFields()) {
            if (!Modifier.isPrivate(field.getModifiers())) {
                found.add(Modifier.toString(field.getModifiers()) + " " + field.getType() + " " + field.getName());
            }
            if (Modifier.isStatic(field.getModifiers())) {
                Check.due(field.getName() + " is final", Modifier.isFinal(field.getModifiers()), true);
            }
        }
        Check.due("the constants", found, new TreeSet<>(Arrays.asList("public static final int NONE",
                "public static final int HIDDEN")));
        Check.due("NONE", PacketScheduler.NONE, -1);
        Check.due("HIDDEN", PacketScheduler.HIDDEN, -1000000000);
    }
}
