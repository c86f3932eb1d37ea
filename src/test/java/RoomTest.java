import java.lang.management.ManagementFactory;

/** All calls of a run live in one room: an object is small, and no call but a throwing one makes anything. */
public final class RoomTest {
    private static final String TEXT = "stick 1 2;beat 100 times 40;pause 3;law f 1 2 3 4 - 5 ahead;law g 4 3 2 1 5;"
            + "player a f 0 0 9 sees b hears c dares 3;player b g 3 0 9 sees a hears c dares 3;player c f 9 0 9 sees b hears a;"
            + "player d f 0 8 9 sees b hears c;player e g 7 0 9 sees a hears b;player f g 0 9 5;wrong a 3 50;";

    public static void main(String[] args) {
        Due due = new Due();
        com.sun.management.ThreadMXBean bean = (com.sun.management.ThreadMXBean) ManagementFactory.getThreadMXBean();
        long thread = Thread.currentThread().getId();
        StickStrings object = new StickStrings();
        ask(object);
        long before = bean.getThreadAllocatedBytes(thread);
        for (int i = 0; i < 20; i++) {
            ask(object);
        }
        long made = bean.getThreadAllocatedBytes(thread) - before;
        System.out.println("bytes made by 20 rounds of calls: " + made);
        // Due.tell itself makes a few small arrays and the bean's answer is boxed: far below one row a call.
        due.is("bytes made by 20 rounds of calls: " + made, made < 20 * 1000, true);
        before = bean.getThreadAllocatedBytes(thread);
        StickStrings other = new StickStrings();
        made = bean.getThreadAllocatedBytes(thread) - before;
        due.is("bytes of an object: " + made, made < 40000, true);
        System.out.println("bytes of an object: " + made);
        due.is("it stands", other.count(1), 0);
        due.end();
    }

    private static void ask(StickStrings s) {
        Due.tell(s, TEXT);
        Due.tell(s, "beat;");
        for (int i = 0; i < 6; i++) {
            s.take(i, i);
            s.seat(i, i, i);
            s.film(i, i, 100 * i);
            s.strike(0);
            s.known(i);
            s.look(i, 5);
            s.entry(i, 39);
            s.sound(i, 3, 4, 5);
            s.shift(i, 4, 5);
            s.moved(i, 3, 50, 0, 39);
            s.far(i, 3, 50, 39);
            s.ends(i, 3, 50);
            s.goes(i, 3, 50, 40, 3);
            s.by(i);
            s.fits(i, 50);
            s.next(i, 9999, 1);
            s.pause(i, 1);
            s.two(i, 0, 39);
            s.undo();
        }
        s.together(3, 4, 0, 39);
        s.where(0, 39, 2);
        s.order(3, 4, 0, 39, 0);
        s.spread(39);
        s.lag(39);
        s.verdict(3);
        s.guilty(0, 1);
        s.clear(1);
        s.draws(5, 50, 3, 7);
        s.named(1, 5);
        s.law(0, 5);
        s.begin(40);
        s.way(0, 1);
        s.count(3);
        s.fault(1);
    }
}
