import java.lang.management.ManagementFactory;

/** All is made by the constructor and used again: no call makes anything, and none takes long. */
public final class RoomTest {
    private static final Check C = new Check();
    private static final com.sun.management.ThreadMXBean BEAN =
            (com.sun.management.ThreadMXBean) ManagementFactory.getThreadMXBean();

    public static void main(String[] args) {
        // the first round lets the machine load what it needs
        run();
        long before = allocated();
        AnswersFirst x = new AnswersFirst();
        long made = allocated() - before;
        System.out.println("a new object: " + made + " bytes");
        C.due(1, "a new object stays small", made < 1000000, true);
        C.due(1, "about(0)", x.about(0), 0);
        before = allocated();
        run();
        made = allocated() - before - made;
        System.out.println("a run of calls: " + made + " bytes more");
        C.due(1, "calls make nothing", made < 20000, true);
        C.finish();
    }

    private static long allocated() {
        return BEAN.getThreadAllocatedBytes(Thread.currentThread().getId());
    }

    /** Many leaves, all things, both ways to say it: the dearest there is. */
    private static void run() {
        AnswersFirst x = new AnswersFirst();
        put(x, "ask p+q+r+s+p*q*r*s+p-q-r-s+p*q*r*s;");
        put(x, "ask s+r+q+p+s*r*q*p+p-q-r-s+p*q*r*s;ask 0;");
        put(x, "ask more(kin(p,q),way(r,s))-if p<q?age(r):kids(s)end;");
        x.played(0);
        x.played(1);
        x.played(2);
        for (int i = 0; i < 6; i++) {
            x.pupil(5, 32767, 99, 8, 16);
        }
        for (int i = 0; i < 8; i++) {
            x.hear(0, i % 2);
            x.tell(0, i);
        }
        long sum = 0;
        for (int i = 0; i < 20; i++) {
            x.thing(i % 4, 90 - i);
            x.equalities(i * 12);
            x.road(i % 6, 5 - i % 6, 9);
            sum += x.kinds(5, 9 - i % 3, i) + x.rarest(5, 9, -500, 500) + x.unasked(5, 9) + x.fair(0, -500, 500);
            sum += x.shortest(9, 499, 3) + x.worlds(-1) + x.parted(0, 1, 0) + x.nearly(0, 1) + x.alike(0, 1);
            sum += x.morning(i) + x.order(0) + x.shut() + x.game(0, 1, true) + x.stuck() + x.lies() + x.clash();
            sum += x.image() + x.back();
        }
        C.due(1, "a run", sum != 0, true);
    }

    private static void put(AnswersFirst x, String text) {
        Check.type(x, text);
        x.text();
    }
}
