import java.lang.management.ManagementFactory;
import java.lang.reflect.Array;
import java.lang.reflect.Field;
import java.lang.reflect.Modifier;
import java.util.IdentityHashMap;
import java.util.Map;

/** An object is small, and no call makes anything new: all calls of a run live in one room. */
public final class RoomTest {
    private static final Check C = new Check();
    private static long elements;

    public static void main(String[] args) throws IllegalAccessException {
        Map<Object, Boolean> met = new IdentityHashMap<>();
        EyeDrink x = Check.wellOf("ET950T931T922T943Q0114Q1115Q2106Q3107D01500D11511D20521D31531");
        count(x, met);
        System.out.println("an object has " + met.size() + " objects, " + elements + " fields and elements");
        C.holds("150 objects at most", met.size() <= 150);
        C.holds("2500 fields and elements at most", elements <= 2500);
        com.sun.management.ThreadMXBean bean = (com.sun.management.ThreadMXBean) ManagementFactory.getThreadMXBean();
        everyCall(x);
        long before = bean.getThreadAllocatedBytes(Thread.currentThread().getId());
        long sum = 0;
        for (int i = 0; i < 200; i++) {
            sum += everyCall(x);
        }
        long made = bean.getThreadAllocatedBytes(Thread.currentThread().getId()) - before;
        C.holds("6000 calls make next to nothing: " + made + " bytes (" + sum + ")", made < 20000);
        C.end();
    }

    private static long everyCall(EyeDrink x) {
        long sum = x.write(255) + x.fault() + x.wipe() + x.well() + x.about(6) + x.thing(0, 3) + x.question(0, 3)
                + x.deed(0, 5) + x.drink(0) + x.act(0) + x.day() + x.mean(0) + x.mean(1) + x.worst(0) + x.worst(1)
                + x.regret(1) + x.never() + x.shortFor(15) + x.can(0) + x.can(1) + x.partners(5, 3, 4, 1)
                + x.keeper(6, 123456, 1) + x.byTurns(9, 6) + x.see(0, true) + x.knew(2) + x.unsee() + x.seed(3)
                + x.drinkers(30) + x.keep(0) + x.again(0) + x.day() + x.undo();
        return sum;
    }

    private static void count(Object o, Map<Object, Boolean> met) throws IllegalAccessException {
        if (o == null || met.put(o, true) != null) {
            return;
        }
        if (o.getClass().isArray()) {
            elements += Array.getLength(o);
            for (int i = 0; i < Array.getLength(o) && o instanceof Object[]; i++) {
                count(Array.get(o, i), met);
            }
            return;
        }
        for (Field f : o.getClass().getDeclaredFields()) {
            if (!Modifier.isStatic(f.getModifiers())) {
                elements++;
                f.setAccessible(true);
                if (!f.getType().isPrimitive()) {
                    count(f.get(o), met);
                }
            }
        }
    }
}
