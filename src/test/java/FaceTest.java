import java.lang.management.ManagementFactory;
import java.lang.reflect.Constructor;
import java.lang.reflect.Field;
import java.lang.reflect.Member;
import java.lang.reflect.Method;
import java.lang.reflect.Modifier;
import java.util.Set;
import java.util.TreeSet;

/** The public face, and the room that calls take. */
public final class FaceTest {
    private static final String[] FACE = {
        "int feed(int, int, int, int, int)", "boolean end(int)", "int machine(int)", "int document()", "int fault()",
        "int of(int, int)", "int count(int)", "int event(int, boolean)", "int take()", "int begin(int)", "int next(int)",
        "int state()", "int held(int, int, int)", "int finish()", "int run(int)", "int through(int, int)",
        "int refused(int)", "int ahead(int, int)", "int peak(int)", "int bound(int, int)", "int states(int)",
        "long many(int, int)", "int least(int)", "int differ(int, int, int)", "int spoils(int, int, int)", "int safe(int, int)"};

    private static Check check;

    public static void main(String[] args) {
        check = new Check();
        face();
        room();
        check.ends();
    }

    private static void face() {
        Class<?> type = TreeStream.class;
        check.due("public and final", type.getModifiers() & (Modifier.PUBLIC | Modifier.FINAL), Modifier.PUBLIC | Modifier.FINAL);
        Set<String> due = new TreeSet<>(Set.of(FACE));
        Set<String> seen = new TreeSet<>();
        Set<String> names = new TreeSet<>();
        for (Method method : type.getDeclaredMethods()) {
            if (!Modifier.isPrivate(method.getModifiers())) {
                StringBuilder text = new StringBuilder(method.getReturnType() + " " + method.getName() + "(");
                for (Class<?> parameter : method.getParameterTypes()) {
                    text.append(text.charAt(text.length() - 1) == '(' ? "" : ", ").append(parameter);
                }
                seen.add(text.append(")").toString());
                names.add(method.getName());
            }
        }
        check.due("methods", seen.toString(), due.toString());
        for (Class<?> inner : type.getDeclaredClasses()) {
            check.due("static " + inner, Modifier.isStatic(inner.getModifiers()) ? 1 : 0, 1);
            for (Method method : inner.getDeclaredMethods()) {
                check.due("a name of the face: " + method, names.contains(method.getName()) ? 1 : 0, 0);
            }
            check.due("fields of " + inner, fields(inner) <= 20 ? 1 : 0, 1);
        }
        for (Method method : type.getDeclaredMethods()) {
            boolean hidden = Modifier.isPrivate(method.getModifiers());
            check.due("a name of the face: " + method, hidden && names.contains(method.getName()) ? 1 : 0, 0);
        }
        for (Field field : type.getDeclaredFields()) {
            check.due("field " + field, isHidden(field) || field.getName().equals("NONE") ? 1 : 0, 1);
        }
        for (Constructor<?> constructor : type.getDeclaredConstructors()) {
            check.due("constructor", constructor.getParameterCount(), 0);
        }
    }

    private static boolean isHidden(Member member) {
        return Modifier.isPrivate(member.getModifiers());
    }

    private static int fields(Class<?> type) {
        int many = 0;
        for (Field field : type.getDeclaredFields()) {
            many += Modifier.isStatic(field.getModifiers()) ? 0 : 1;
        }
        return many;
    }

    /** No call makes an object: all rows come from the constructor, and they are small. */
    private static void room() {
        com.sun.management.ThreadMXBean bean = (com.sun.management.ThreadMXBean) ManagementFactory.getThreadMXBean();
        long id = Thread.currentThread().getId();
        for (int round = 0; round < 3; round++) {
            calls(new TreeStream());
        }
        long before = bean.getThreadAllocatedBytes(id);
        TreeStream x = new TreeStream();
        long made = bean.getThreadAllocatedBytes(id);
        calls(x);
        long after = bean.getThreadAllocatedBytes(id);
        check.due("the constructor's bytes: " + (made - before), made - before < 400000 ? 1 : 0, 1);
        check.due("bytes of all calls", after - made < 20000 ? 1 : 0, 1);
    }

    private static void calls(TreeStream x) {
        // "machine 1 1;open a 0 0 0;close a 0 0 0=y0<a x0>;end 0=x0"
        for (int k = 0; k < 4; k++) {
            x.feed(0x6d616368, 0x696e6520, 0x3120313b, 0x6f70656e, 0x20612030);
            x.feed(0x20302030, 0x3b636c6f, 0x73652061, 0x20302030, 0x20303d79);
            x.feed(0x303c6120, 0x78303e3b, 0x656e6420, 0x303d7830, 0x20202020);
            x.machine(k);
        }
        for (int i = 0; i < 40; i++) {
            x.feed(0x3c613e3c, 0x613c613e, 0x3e202020, 0x20202020, 0x20202020);
            x.document();
            x.run(0);
            x.through(0, 1);
            x.peak(0);
            x.many(0, 16);
            x.least(0);
            x.states(0);
            x.differ(0, 1, 4);
            x.spoils(0, 1, 4);
            x.safe(0, 1);
        }
        check.due("the calls did something", x.many(0, 3), 5);
    }
}
