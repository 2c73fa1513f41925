import com.sun.management.ThreadMXBean;
import java.lang.management.ManagementFactory;
import java.lang.reflect.Constructor;
import java.lang.reflect.Field;
import java.lang.reflect.Method;
import java.lang.reflect.Modifier;
import java.util.ArrayList;
import java.util.Arrays;
import java.util.List;
import java.util.Set;
import java.util.TreeSet;

/** The public face as the document writes it, and the room that dear calls take. */
public final class FaceTest {
    private static final String[] FACE = {"int letter 1", "int larder 0", "int jar 2", "int known 0", "int moves 2",
        "int shuts 1", "int eats 2", "int folk 1", "int turn 3", "int years 1", "int knownThen 1", "int foodThen 2",
        "int hungerThen 1", "int first 1", "int lasts 1", "int shutBest 3", "int move 1", "int folkFor 2", "int only 0",
        "int keepers 1", "int fewest 0", "int dearest 0", "int fullest 1", "int age 1", "int leak 1", "int fill 4",
        "int feast 0", "int two 3", "long mice 4", "long mean 1", "int whatWas 2", "int row 1", "int judge 0",
        "int clear 0", "int lots 3", "int image 0", "int on 0", "int count 1"};
    /** 7.3 million fields and elements of 8 bytes at most and 600,000 heads of objects and arrays of 16. */
    private static final long ROOM = 7_300_000L * 8 + 600_000L * 16;
    private static final String[] DEAREST = {"shutBest 30 99 0", "mice 3 7 20 0", "lots 20 7 0", "move 30", "folkFor 3 30",
        "fill 3 5 30 0", "two 0 1 30", "whatWas 0 0", "feast", "fewest", "first 2", "tell f03;x0;y01;"};

    private static final List<String> FAULTS = new ArrayList<>();

    public static void main(String[] args) {
        lookAtMethods();
        lookAtMembers();
        lookAtClassesInside();
        lookAtRoom();
        for (String fault : FAULTS) System.out.println(fault);
        System.out.println(FAULTS.size() + " faults of the face");
        if (!FAULTS.isEmpty()) System.exit(1);
    }

    private static void mustBe(boolean good, String fault) {
        if (!good) FAULTS.add(fault);
    }

    private static void lookAtMethods() {
        Set<String> due = new TreeSet<>(Arrays.asList(FACE));
        Set<String> found = new TreeSet<>();
        for (Method method : LarderAges.class.getDeclaredMethods()) {
            if (!Modifier.isPublic(method.getModifiers())) continue;
            found.add(method.getReturnType() + " " + method.getName() + " " + method.getParameterCount());
            for (Class<?> type : method.getParameterTypes()) mustBe(type == int.class, "a parameter of " + method.getName());
        }
        mustBe(due.equals(found), "the face is " + found);
    }

    private static void lookAtMembers() {
        int modifiers = LarderAges.class.getModifiers();
        mustBe(Modifier.isPublic(modifiers) && Modifier.isFinal(modifiers), "the class is not public and final");
        Constructor<?>[] constructors = LarderAges.class.getDeclaredConstructors();
        mustBe(constructors.length == 1 && constructors[0].getParameterCount() == 0, "other constructors");
        mustBe(Modifier.isPublic(constructors[0].getModifiers()), "the constructor is not public");
        for (Field field : LarderAges.class.getDeclaredFields()) {
            mustBe(Modifier.isPrivate(field.getModifiers()), field.getName() + " is not private");
            boolean isConstant = Modifier.isFinal(field.getModifiers());
            mustBe(isConstant || !Modifier.isStatic(field.getModifiers()), field.getName() + " is static and not final");
        }
        for (Method method : LarderAges.class.getDeclaredMethods()) {
            int of = method.getModifiers();
            mustBe(Modifier.isPublic(of) || Modifier.isPrivate(of), method.getName() + " is neither public nor private");
            mustBe(Modifier.isPublic(of) || !isOfFace(method.getName()), "a private method bears the name " + method.getName());
        }
    }

    private static void lookAtClassesInside() {
        for (Class<?> inside : LarderAges.class.getDeclaredClasses()) {
            int of = inside.getModifiers();
            mustBe(Modifier.isStatic(of) && !Modifier.isPublic(of) && !Modifier.isProtected(of), inside + " is not static and hidden");
            for (Method method : inside.getDeclaredMethods()) {
                boolean isPrivate = Modifier.isPrivate(method.getModifiers());
                mustBe(!isPrivate || !isOfFace(method.getName()), "a private method of " + inside + " bears the name " + method.getName());
            }
        }
    }

    private static boolean isOfFace(String name) {
        for (String told : FACE) if (told.split(" ")[1].equals(name)) return true;
        return false;
    }

    /** What a run of the dearest calls takes of the one room that all calls live in. */
    private static void lookAtRoom() {
        if (!(ManagementFactory.getThreadMXBean() instanceof ThreadMXBean)) return;
        ThreadMXBean bean = (ThreadMXBean) ManagementFactory.getThreadMXBean();
        if (!bean.isThreadAllocatedMemorySupported()) return;
        long thread = Thread.currentThread().getId();
        for (String call : DEAREST) {
            LarderAges x = Checks.larderOf("jj0020;jc1120;jp2220;jb3320;jh4420;jd5520;jj6020;jj7120;jj8220;");
            for (int i = 0; i < 16; i++) x.row(20);
            long before = bean.getThreadAllocatedBytes(thread);
            for (int i = 0; i < 40; i++) Checks.answer(x, call);
            // The test's own texts and reflection are counted, too.
            long taken = (bean.getThreadAllocatedBytes(thread) - before) / 40 * 512;
            mustBe(taken < ROOM, "512 calls of " + call + " take " + taken);
        }
    }
}
