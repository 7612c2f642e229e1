import java.lang.management.ManagementFactory;
import java.lang.reflect.Method;
import java.lang.reflect.Modifier;
import java.util.ArrayList;
import java.util.Comparator;
import java.util.List;
import java.util.Random;

/** No call throws, whatever its arguments are, and none makes anything new: the rows are made with the object. */
public final class RoomTest {
    private static final int[] ODD = {Integer.MIN_VALUE, Integer.MIN_VALUE + 1, -1000, -2, -1, 0, 1, 2, 3, 4, 5, 7, 8, 9, 10, 11, 12, 13,
        19, 20, 21, 24, 25, 30, 31, 40, 59, 60, 61, 99, 100, 150, 200, 400, 1012, 1234, 9999, 10000, 43210, 1876543210,
        Integer.MAX_VALUE - 1, Integer.MAX_VALUE};
    private static final String[] TEXTS = {"speaks 999 when not(tongue<5 or stayed>20);hears 495*2-lamp/3;spins minute+evening;",
        "person 0 at 5 on 0 for 60;person 1 at 5 on 1 for 2;", "in 0 rain 7;in 0 oil 1 9;in 1 sweep 0;in 0 master 0 1;",
        "porch 0 by 1 8;porch 1 by 2 3;"};
    private static final Due due = new Due("RoomTest");

    public static void main(String[] args) throws Exception {
        List<Method> methods = new ArrayList<>();
        for (Method m : PorchHours.class.getDeclaredMethods()) if (Modifier.isPublic(m.getModifiers())) methods.add(m);
        methods.sort(Comparator.comparing(Method::getName));
        due.is("public methods", methods.size(), 43 - 1);
        for (int seed = 0; seed < 300; seed++) anything(methods, new Random(seed));
        room();
        due.close();
    }

    private static void anything(List<Method> methods, Random random) throws Exception {
        PorchHours x = new PorchHours();
        int calls = 0;
        if (random.nextInt(3) > 0) {
            for (int i = 0; i < 3; i++) x.porch(3, i);
            for (int i = 0; i < 4; i++) x.person(9 - i, 2 * i);
            calls = 7;
        }
        for (; calls < 500; calls++) {
            if (random.nextInt(40) == 0) {
                int k = random.nextInt(4);
                Due.tell(x, k, TEXTS[k]);
                calls += 6;
            }
            Method m = methods.get(random.nextInt(methods.size()));
            Object[] given = new Object[m.getParameterCount()];
            for (int i = 0; i < given.length; i++) {
                given[i] = m.getParameterTypes()[i] == boolean.class ? (Object) random.nextBoolean() : (Object) any(random);
            }
            try {
                m.invoke(x, given);
            } catch (java.lang.reflect.InvocationTargetException e) {
                due.is(m.getName() + java.util.Arrays.toString(given) + " threw " + e.getCause(), 1, 0);
            }
        }
    }

    private static int any(Random random) {
        int how = random.nextInt(10);
        if (how == 0) return random.nextInt();
        if (how < 4) return random.nextInt(4);
        return ODD[random.nextInt(ODD.length)];
    }

    private static void room() {
        com.sun.management.ThreadMXBean beans = (com.sun.management.ThreadMXBean) ManagementFactory.getThreadMXBean();
        long me = Thread.currentThread().getId();
        int sum = 0;
        for (int i = 0; i < 20; i++) sum += calls(new PorchHours());
        PorchHours x = new PorchHours();
        long before = beans.getThreadAllocatedBytes(me);
        sum += calls(x);
        long behind = beans.getThreadAllocatedBytes(me);
        PorchHours y = new PorchHours();
        long made = beans.getThreadAllocatedBytes(me) - behind;
        sum += y.look(0);
        System.out.println("RoomTest: " + made + " bytes an object, " + (behind - before) + " bytes by all calls (" + sum + ")");
        due.is("bytes by all calls stay below 20000: " + (behind - before), behind - before < 20000, true);
        due.is("bytes an object stay below 100000: " + made, made < 100000, true);
    }

    /** The dearest calls of each kind, without anything made by the test itself. */
    private static int calls(PorchHours x) {
        int sum = 0;
        for (int i = 0; i < 12; i++) sum += x.porch(6, 99);
        for (int i = 0; i < 20; i++) sum += x.person(9, 9);
        for (int i = 0; i < 20; i++) sum += x.act(0, i, i / 2) ? 1 : 0;
        for (int i = 0; i < 5; i++) sum += x.chair(30 - i, 29 - i);
        for (int i = 0; i < 12; i++) sum += x.cat(i % 8, (i + 1) % 8, 100 * i + i + 5);
        for (int i = 0; i < 8; i++) sum += x.family(1 + i) + x.swing(50 - i) + x.quarrel(i, (i + 1) % 8);
        for (int i = 0; i < 12; i++) sum += x.board(i * 37 % 100) + x.half(0, 1) + x.half(1, 1) + x.half(2, 1) + x.half(2, 1);
        for (int i = 0; i < 24; i++) sum += x.talk(i % 3);
        sum += x.image(true) ? 1 : 0;
        for (int i = 0; i < 5; i++) {
            sum += x.minutes(60) + x.goes(60, 1) + x.soonest(1) + x.matched(-1, 0, 0) + x.matched(0, 1, 1) + x.rocks(0) + x.rocks(1);
            sum += x.reply(0, 0, 7) + x.storm(9, -1) + x.storm(20, 4) + x.level(0) + x.level(1) + x.talks(0) + x.talks(25);
            sum += x.halves(0) + x.halves(1) + x.swings(0) + x.swings(1) + x.seated(8, 0) + x.seated(8, 1) + x.last(0, 0);
            sum += x.steps(40, 31, 0) + x.steps(40, 31, 1) + x.lamps(12, 7, 5, 6) + x.hooks(1876543210, 0) + x.game(200, 123);
            // "spins 9;speaks 1000;" and "porch 0 by 11 9;    "
            sum += x.feed(0x7370696e, 0x7320393b, 0x73706561, 0x6b732031, 0x3030303b) + x.text(0);
            sum += x.feed(0x706f7263, 0x68203020, 0x62792031, 0x3120393b, 0x20202020) + x.text(3);
            sum += x.undo() ? 1 : 0;
            sum += x.image(false) ? 1 : 0;
        }
        return sum;
    }
}
