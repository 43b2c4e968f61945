import java.lang.reflect.Constructor;
import java.lang.reflect.Field;
import java.lang.reflect.Method;
import java.lang.reflect.Modifier;
import java.util.Arrays;
import java.util.TreeSet;

/** The public face of the class: exactly the document's constants, constructor and methods. */
final class FaceTest {
    private static final String[] METHODS = {
        "int appendInput(int,int,int,int,int)", "boolean truncateInput(int)", "int loadSetup()", "int runScript()",
        "int errorCode()", "int errorOffset()", "int queueCount()", "int ownerCount()", "int jobCount()",
        "int queueNameByte(int,int) I", "int ownerNameByte(int,int) I", "int queueOf(int) I", "int ownerOf(int) I",
        "int priority(int) I", "int pages(int) I", "boolean isWaiting(int) I", "boolean isPrinted(int) I",
        "boolean isCancelled(int) I", "int root(int) I", "int leftChild(int) I", "int rightChild(int) I",
        "int parent(int) I", "int rank(int) I", "int depth(int) I S", "int height(int) I", "int size(int) I",
        "int jobAt(int,int) I", "int positionOf(int) I S", "int pagesBefore(int) I S",
        "int minutesUntilPrinted(int) I S", "int waitingPages(int) I", "int printedPages(int) I", "int speed(int) I",
        "boolean isPaused(int) I", "int leastLoadedQueue()", "int waitingPagesOfOwner(int) I",
        "int printedPagesOfOwner(int) I", "int printingObstacle(int) I", "int comparisons()", "int swaps()",
        "int mergeCost(int,int) I A", "int rankAfterMerge(int,int) I A", "int positionWith(int,int) I A S",
        "double meanRank()", "float printedPart()", "boolean isConsistent()", "int submit(int,int,int,int) I A S",
        "int printNext(int) I S", "int cancel(int) I S", "int changePriority(int,int) I A S",
        "int moveJob(int,int) I S", "int mergeQueues(int,int) I A", "boolean setPaused(int,boolean) I",
        "int undo() N", "int writeHeap(int) I", "int outputByte(int)", "int saveState()", "int restoreState() N"};

    private static final String[] CONSTANTS = {"NONE -1", "NO_ERROR 0", "SYNTAX 1", "OUT_OF_RANGE 2", "BAD_NAME 3",
        "TOO_MANY 4", "TOO_FEW 5", "CAN_PRINT 0", "PAUSED 1", "EMPTY 2"};

    private FaceTest() {
    }

    static void run() {
        Check.begin("FaceTest");
        Class<LeftistSpooler> face = LeftistSpooler.class;
        Check.due("the class is public and final", true,
            () -> Modifier.isPublic(face.getModifiers()) && Modifier.isFinal(face.getModifiers()));
        Check.due("methods", new TreeSet<>(Arrays.asList(METHODS)), () -> openMethods(face));
        Check.due("constants", new TreeSet<>(Arrays.asList(CONSTANTS)), () -> openFields(face));
        Check.due("constructors", 1, () -> openConstructors(face));
        Check.due("private methods with a public name", new TreeSet<String>(), () -> doubledNames(face));
    }

    private static TreeSet<String> openMethods(Class<?> face) {
        TreeSet<String> found = new TreeSet<>();
        for (Method m : face.getDeclaredMethods()) {
            if (!Modifier.isPrivate(m.getModifiers()) && !m.isSynthetic()) {
                found.add(told(m));
            }
        }
        return found;
    }

    private static String told(Method m) {
        StringBuilder text = new StringBuilder(m.getReturnType() + " " + m.getName() + "(");
        for (Class<?> type : m.getParameterTypes()) {
            text.append(text.charAt(text.length() - 1) == '(' ? "" : ",").append(type);
        }
        text.append(')');
        for (Class<?> type : m.getExceptionTypes()) {
            String name = type.getSimpleName();
            text.append(name.startsWith("Index") ? " I" : name.startsWith("IllegalA") ? " A" : name.startsWith("IllegalS") ? " S"
                : name.startsWith("NoSuch") ? " N" : " " + name);
        }
        return Modifier.isPublic(m.getModifiers()) && !Modifier.isStatic(m.getModifiers()) ? text.toString() : "odd " + text;
    }

    private static TreeSet<String> openFields(Class<?> face) throws IllegalStateException {
        TreeSet<String> found = new TreeSet<>();
        for (Field f : face.getDeclaredFields()) {
            if (!Modifier.isPrivate(f.getModifiers()) && !f.isSynthetic()) {
                boolean isConstant = f.getModifiers() == (Modifier.PUBLIC | Modifier.STATIC | Modifier.FINAL);
                found.add((isConstant && f.getType() == int.class ? "" : "odd ") + f.getName() + " " + valueOf(f));
            }
        }
        return found;
    }

    private static String valueOf(Field f) {
        try {
            return String.valueOf(f.getInt(null));
        } catch (IllegalAccessException e) {
            return "hidden";
        }
    }

    private static int openConstructors(Class<?> face) {
        int open = 0;
        for (Constructor<?> c : face.getDeclaredConstructors()) {
            open += Modifier.isPublic(c.getModifiers()) && c.getParameterCount() == 0 ? 1 : 100;
        }
        return open;
    }

    private static TreeSet<String> doubledNames(Class<?> face) {
        TreeSet<String> open = new TreeSet<>();
        for (Method m : face.getDeclaredMethods()) {
            if (Modifier.isPublic(m.getModifiers())) {
                open.add(m.getName());
            }
        }
        TreeSet<String> doubled = new TreeSet<>();
        for (Method m : face.getDeclaredMethods()) {
            if (Modifier.isPrivate(m.getModifiers()) && open.contains(m.getName())) {
                doubled.add(m.getName());
            }
        }
        for (Class<?> inner : face.getDeclaredClasses()) {
            for (Method m : inner.getDeclaredMethods()) {
                if (open.contains(m.getName())) {
                    doubled.add(inner.getSimpleName() + "." + m.getName());
                }
            }
        }
        return doubled;
    }
}
