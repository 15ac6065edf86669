import java.lang.management.ManagementFactory;

/** 512 of the dearest calls: how much room they take, and that none throws, whatever is asked. */
public final class RoomTest {
    private static final int CALLS = 512;
    private static final long BYTES = 200_000;

    public static void main(String[] args) {
        use(new RidCoppers());
        com.sun.management.ThreadMXBean meter =
                (com.sun.management.ThreadMXBean) ManagementFactory.getThreadMXBean();
        long self = Thread.currentThread().getId();
        long before = meter.getThreadAllocatedBytes(self);
        use(new RidCoppers());
        long taken = meter.getThreadAllocatedBytes(self) - before;
        System.out.println(CALLS + " calls took " + taken + " bytes");
        if (taken > BYTES) {
            System.out.println("that is more than " + BYTES);
            System.exit(1);
        }
    }

    private static void use(RidCoppers x) {
        x.image();
        for (int i = 0; i < CALLS - 1; i++) {
            int p = i % 4;
            switch (i % 16) {
                case 0: x.undo(); break;
                case 1: case 2: case 3: case 4: x.payer(i % 7, i % 10); break;
                case 5: x.purse(p, i % 6, 9); break;
                case 6: x.price(20 + p); break;
                case 7: x.feed('h'); break;
                case 8: x.town(); break;
                case 9: x.who(); break;
                case 10: x.exactly(0); break;
                case 11: x.shortOf(1); break;
                case 12: x.heaviest(2, 8); break;
                case 13: x.act(3, 2, i); break;
                case 14: x.tape(p, p, 60); break;
                default: x.pay(0, 1 + i % 199); break;
            }
        }
    }
}
