import java.lang.management.ManagementFactory;

/** All calls of a run live in one room: acts on streams make no objects once the strips have grown. */
public final class RoomTest {
    private static final com.sun.management.ThreadMXBean THREADS =
        (com.sun.management.ThreadMXBean) ManagementFactory.getThreadMXBean();

    public static void main(String[] args) {
        acts("unbounded select k1, k2, k3, k4, k5, k6, k7, k8 from s0 as p join s1 as q on true join s2 as r on true"
            + " group by p.a as k1, q.a as k2, r.a as k3, p.b as k4, q.b as k5, r.b as k6, p.c as k7, r.d as k8"
            + " having count(*) + sum(p.a) + sum(p.b) + min(p.c) + max(p.d) + sum(q.a) + sum(q.b) is not null");
        acts("unbounded select distinct p.a as a, q.a as b, r.a as c from s0 as p left join s1 as q on p.a <> q.b"
            + " left join s2 as r on p.a <> q.b or q.a is null order by a, b desc, c limit 100");
        acts("unbounded select a from s0 as p except select b from s1 as q union select c from s2 as r");
        queries();
        Probe.end("RoomTest");
    }

    private static long made() {
        return THREADS.getThreadAllocatedBytes(Thread.currentThread().getId());
    }

    private static void fill(StreamQueries x, int i) {
        x.value(i % 7);
        x.value(i);
        x.nothing();
        x.value(i % 3);
        x.row(i % 3, i);
    }

    private static void ask(StreamQueries x, String text) {
        int size = 0;
        for (int i = 0; i < text.length(); i += 20) {
            int[] five = Probe.five(text, i);
            size = x.feed(five[0], five[1], five[2], five[3], five[4]);
        }
        x.cut(size - (20 - text.length() % 20) % 20);
        x.query();
    }

    /** A few calls of the tool itself are let through. */
    private static void acts(String text) {
        StreamQueries x = new StreamQueries();
        for (int i = 0; i < 3; i++) {
            x.stream(4);
        }
        long start = made();
        ask(x, text);
        Probe.due("fault of " + text, x.fault(), 0);
        for (int i = 0; i < 24; i++) {
            fill(x, i);
        }
        long grown = made();
        for (int i = 0; i < 32; i++) {
            x.back(i % 3, i / 3 % 8);
            fill(x, i);
            x.watermark(i);
            x.at(0, 0);
            x.changed(0, 0);
            x.told(2);
        }
        Probe.due("bytes until the strips have grown", grown - start < 3_000_000, true);
        Probe.due("bytes of the acts then", made() - grown < 50_000, true);
    }

    private static void queries() {
        StreamQueries x = new StreamQueries();
        long start = made();
        for (int i = 0; i < 512; i++) {
            x.query();
        }
        Probe.due("bytes of 512 queries", made() - start < 2_000_000, true);
    }
}
