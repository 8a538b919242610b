import java.lang.management.ManagementFactory;

/** What a run makes is little: an office's own rows once, and then nothing more. */
public final class RoomTests {
    private static final Checks CHECKS = new Checks("RoomTests");
    // Sixteen bytes an object and four to eight an element: far below a room of 7.3 million elements.
    private static final long OFFICE_BYTES = 60000;
    private static final com.sun.management.ThreadMXBean BEAN =
            (com.sun.management.ThreadMXBean) ManagementFactory.getThreadMXBean();

    public static void main(String[] args) {
        long sum = 0;
        for (int warm = 0; warm < 3; warm++) {
            sum += use(new CountOffice());
        }
        long before = bytes();
        CountOffice x = new CountOffice();
        long made = bytes() - before;
        CHECKS.due("a new office makes few bytes, not " + made, made > 0 && made < OFFICE_BYTES, true);
        before = bytes();
        sum += use(x);
        made = bytes() - before;
        CHECKS.due("calls make nothing, not " + made, made < 1000, true);
        CHECKS.due("they were made", sum != 0, true);
        CHECKS.close();
    }

    private static long bytes() {
        return BEAN.getThreadAllocatedBytes(Thread.currentThread().getId());
    }

    private static long use(CountOffice x) {
        long sum = 0;
        // field r top 2 cost 1; field c top 3 cost 1; never r = 2 and c = 3
        x.feed(0x6669656c, 0x64207220, 0x746f7020, 0x3220636f, 0x73742031);
        x.feed(0x3b206669, 0x656c6420, 0x6320746f, 0x70203320, 0x636f7374);
        x.feed(0x20313b20, 0x6e657665, 0x72207220, 0x3d203220, 0x616e6420);
        x.feed(0x63203d20, 0x33202020, 0x20202020, 0x20202020, 0x20202020);
        sum += x.book(65);
        // count by r, c
        x.feed(0x636f756e, 0x74206279, 0x20722c20, 0x63202020, 0x20202020);
        sum += x.table(13);
        // count where
        x.feed(0x636f756e, 0x74207768, 0x65726520, 0x20202020, 0x20202020);
        sum += x.table(11);
        for (int k = 0; k < 60; k++) {
            sum += x.row(k % 4 - (k % 4 == 3 ? 4 : 0), k % 5 - (k % 5 == 4 ? 5 : 0), 0, 0, 0, 0);
        }
        for (int k = 0; k < 60; k++) {
            sum += x.mend(k) + x.fill(k, k) + x.of(k, 1) + x.value(k, 0, 0, 0);
        }
        x.known(0, 1, 1000);
        x.set(3, 9);
        x.lot(3);
        for (int k = 0; k < 12; k++) {
            sum += x.figure(0, k % 3, k % 4, 0, 0) + x.agreed(0, k % 3, k % 4, true) + x.edge(0, k % 3, k % 4, 4095, true);
            sum += x.least(0) + x.wide(0, 4095) + x.noise(0, k % 3, k % 4) + x.small(0, 0, 0, 0) + x.count(k);
            sum += x.span(0, k % 3, k % 4, true) + x.differing(0, 0) + x.shy(0);
        }
        return sum;
    }
}
