import java.lang.management.ManagementFactory;
import java.lang.reflect.Array;
import java.lang.reflect.Field;
import java.lang.reflect.Modifier;
import java.util.ArrayDeque;
import java.util.Collections;
import java.util.Deque;
import java.util.IdentityHashMap;
import java.util.Set;

/** All calls of a run live in one room: how much an object takes of it, and that no call of it takes more. */
public final class RoomTest {
    private static final int MOST_OBJECTS = 400;
    private static final int MOST_ELEMENTS = 13000;
    private static final int PASSES = 6;
    /** The least that an object takes, in bytes: passes that make less than one each make none. */
    private static final int LEAST_OBJECT = 16;

    private final Set<Object> objects = Collections.newSetFromMap(new IdentityHashMap<>());
    private final Deque<Object> open = new ArrayDeque<>();
    private int elements;

    private RoomTest(SideBySide x) throws IllegalAccessException {
        enter(x);
        while (!open.isEmpty()) {
            Object o = open.poll();
            if (o.getClass().isArray()) {
                countArray(o);
            } else {
                countFields(o);
            }
        }
    }

    public static void main(String[] args) throws IllegalAccessException {
        roomOfAnObject();
        callsMakeNothing();
        Checks.end();
    }

    private void enter(Object o) {
        if (o != null && objects.add(o)) {
            open.add(o);
        }
    }

    private void countArray(Object array) {
        int length = Array.getLength(array);
        elements += length;
        for (int i = 0; i < length && !array.getClass().getComponentType().isPrimitive(); i++) {
            enter(Array.get(array, i));
        }
    }

    private void countFields(Object o) throws IllegalAccessException {
        for (Field f : o.getClass().getDeclaredFields()) {
            if (!Modifier.isStatic(f.getModifiers())) {
                elements++;
                f.setAccessible(true);
                if (!f.getType().isPrimitive()) {
                    enter(f.get(o));
                }
            }
        }
    }

    private static SideBySide greatest() {
        return Checks.books(Checks.greatestBook('l'), Checks.greatestBook('r'));
    }

    private static void roomOfAnObject() throws IllegalAccessException {
        RoomTest fresh = new RoomTest(new SideBySide());
        Checks.due(fresh.objects.size() + " objects are too many", fresh.objects.size() <= MOST_OBJECTS ? 0 : 1, 0);
        Checks.due(fresh.elements + " elements are too many", fresh.elements <= MOST_ELEMENTS ? 0 : 1, 0);
        SideBySide x = greatest();
        useAllCalls(x);
        RoomTest used = new RoomTest(x);
        Checks.due("objects behind many calls", used.objects.size(), fresh.objects.size());
        Checks.due("elements behind many calls", used.elements, fresh.elements);
    }

    /** The first object warms the machine up, which makes objects of its own where a class is used first. */
    private static void callsMakeNothing() {
        if (!(ManagementFactory.getThreadMXBean() instanceof com.sun.management.ThreadMXBean bean)
            || !bean.isThreadAllocatedMemorySupported()) {
            System.out.println("this machine does not tell what a call makes");
            return;
        }
        bean.setThreadAllocatedMemoryEnabled(true);
        long me = Thread.currentThread().getId();
        madeBy(greatest(), bean, me);
        long made = madeBy(greatest(), bean, me);
        Checks.due(PASSES + " times all calls make " + made + " bytes", made < PASSES * LEAST_OBJECT ? 0 : 1, 0);
    }

    private static long madeBy(SideBySide x, com.sun.management.ThreadMXBean bean, long thread) {
        long before = bean.getThreadAllocatedBytes(thread);
        for (int n = 0; n < PASSES; n++) {
            useAllCalls(x);
        }
        return bean.getThreadAllocatedBytes(thread) - before;
    }

    private static void useAllCalls(SideBySide x) {
        useLaying(x);
        useSharesAndLinks(x);
        useDesk(x);
        useBooks(x);
    }

    private static void useLaying(SideBySide x) {
        x.fast(3, 4);
        x.keep(true);
        x.lay();
        x.keep(false);
        x.joint(1, 3);
        x.price(6, 0, 0);
        x.rest(0, 0);
        x.second();
        x.sure(0, 10000);
        x.loosen(3);
    }

    private static void useSharesAndLinks(SideBySide x) {
        x.term(0, 0);
        x.rounds(10);
        x.share(0, 0);
        x.partner(0, 0);
        x.broken();
        x.link(0, 0, 0);
        x.linked(0, 1, 0, 0);
        x.phrases(0);
    }

    private static void useDesk(SideBySide x) {
        x.putSentence(0, 0, 0);
        x.putJoint(1, 0);
        x.putRow(2, 30);
        x.sort(0);
        x.write(2, 0, 1);
        x.read(2, 0);
        x.spell(0, 2, 1);
        x.rate(1);
        x.code();
        x.clear(0);
    }

    /** The right book alone is taken anew, so that there is much to lay in the next pass, too. */
    private static void useBooks(SideBySide x) {
        x.count(0, 4);
        x.sentence(0, 0, 1);
        x.word(0, 0, 0);
        x.letter(0, 0, 0);
        x.change(0, 0, 0, 1);
        x.cut(0);
        x.feed(0x6D722020, 0x20202020, 0x20202020, 0x20202020, 0x20202020);
        x.abbreviate();
        x.feed(0x75207620, 0x77207821, 0x7820790A, 0x7A207520, 0x762E7820);
        x.feed(0x2E206120, 0x6220632E, 0x20642065, 0x3F206620, 0x67206821);
        x.take(1);
    }
}
