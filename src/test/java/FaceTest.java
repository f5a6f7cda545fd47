import java.lang.reflect.Constructor;
import java.lang.reflect.Field;
import java.lang.reflect.Method;
import java.lang.reflect.Modifier;
import java.util.Set;
import java.util.TreeSet;

/** The public face is the document's, and nothing else of the class is seen from outside. */
public final class FaceTest {
    private static final String[] FACE = {
        "NONE -1", "CONFLICT -2", "LOCKED -3", "OPEN 0", "WAITING 1", "COMMITTED 2", "ABORTED 3",
        "new()",
        "int begin(int) X S", "int read(int,int) X S", "int write(int,int,int) X A S",
        "int commit(int) X S", "int abort(int) X S", "int advance(int) A S",
        "int synchronize(int,int) X A", "int setDrift(int,int) X A", "int setUncertainty(int,int,int) X A",
        "int snapshotRead(int,int) X A S", "int appendText(int) A S", "int clearText()",
        "int errorPosition()", "int runText() S", "int undo() S", "int save(int) X", "int restore(int) X S",
        "int trueTime()", "int reading(int) X", "int earliest(int) X", "int latest(int) X",
        "boolean isSound(int) X", "int nextTimestamp(int) X", "int transactions()", "int state(int) X",
        "int timestamp(int) X", "int requestTime(int) X", "int commitTime(int) X",
        "int bufferedValue(int,int) X", "int recordedTimestamp(int,int) X", "int ifCommitted(int) X",
        "int ticksToCommit(int) X", "int versions(int) X", "int versionTimestamp(int,int) X",
        "int valueAt(int,int) X A", "int replayedValueAt(int,int) X A", "int waitingWriter(int) X",
        "int readerMark(int) X", "int safeTime()", "int readFloor()", "int ticksUntilSafe(int) A",
        "int countInState(int) A", "int totalWait()", "int unsoundUses()", "int inversions()",
        "int savedStates()", "int textLength()",
    };

    public static void main(String[] arguments) throws IllegalAccessException {
        Set<String> found = new TreeSet<>();
        for (Field field : CommitWaitStore.class.getDeclaredFields()) {
            if (!Modifier.isPrivate(field.getModifiers())) {
                found.add(describe(field));
            }
        }
        for (Constructor<?> constructor : CommitWaitStore.class.getDeclaredConstructors()) {
            found.add("new" + types(constructor.getParameterTypes()));
        }
        Set<String> privateNames = new TreeSet<>();
        Set<String> publicNames = new TreeSet<>();
        for (Method method : CommitWaitStore.class.getDeclaredMethods()) {
            if (Modifier.isPrivate(method.getModifiers())) {
                privateNames.add(method.getName());
            } else {
                publicNames.add(method.getName());
                found.add(describe(method));
            }
        }
        Check.due("the face", found.toString(), new TreeSet<>(Set.of(FACE)).toString());
        for (Class<?> inside : CommitWaitStore.class.getDeclaredClasses()) {
            int modifiers = inside.getModifiers();
            Check.due(inside + " is private or package-visible",
                    Modifier.isPublic(modifiers) || Modifier.isProtected(modifiers), false);
            for (Method method : inside.getDeclaredMethods()) {
                if (Modifier.isPrivate(method.getModifiers())) {
                    privateNames.add(method.getName());
                }
            }
        }
        privateNames.retainAll(publicNames);
        Check.due("private methods with a public one's name", privateNames.toString(), "[]");
        int modifiers = CommitWaitStore.class.getModifiers();
        Check.due("the class is public and final", Modifier.isPublic(modifiers) && Modifier.isFinal(modifiers), true);
        Check.end("FaceTest");
    }

    private static String describe(Field field) throws IllegalAccessException {
        int needed = Modifier.PUBLIC | Modifier.STATIC | Modifier.FINAL;
        String value = field.getModifiers() == needed && field.getType() == int.class
                ? String.valueOf(field.getInt(null)) : "is no public constant";
        return field.getName() + " " + value;
    }

    private static String describe(Method method) {
        StringBuilder text = new StringBuilder();
        if (method.getModifiers() != Modifier.PUBLIC) {
            text.append("not plainly public ");
        }
        text.append(method.getReturnType().getSimpleName()).append(' ').append(method.getName());
        text.append(types(method.getParameterTypes()));
        for (Class<?> exception : method.getExceptionTypes()) {
            text.append(exception == IndexOutOfBoundsException.class ? " X"
                    : exception == IllegalArgumentException.class ? " A"
                    : exception == IllegalStateException.class ? " S" : " " + exception.getName());
        }
        return text.toString();
    }

    private static String types(Class<?>[] types) {
        StringBuilder text = new StringBuilder("(");
        for (int i = 0; i < types.length; i++) {
            text.append(i == 0 ? "" : ",").append(types[i].getSimpleName());
        }
        return text.append(')').toString();
    }
}
