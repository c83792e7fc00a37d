import com.sun.management.ThreadMXBean;
import java.lang.management.ManagementFactory;
import java.util.NoSuchElementException;

/** All calls of a run live in one room: 512 of even the dearest call make less than 7.3 million elements. */
public final class RoomTest {
    private static final int CALLS = 470;
    /** Elements of four bytes each; what is larger or has a head of its own only makes it stricter. */
    private static final long ROOM = 7_300_000L * 4;
    private static final ThreadMXBean BEAN = (ThreadMXBean) ManagementFactory.getThreadMXBean();

    private RoomTest() {
    }

    public static void main(String[] args) {
        long self = Thread.currentThread().getId();
        for (int which = 0; which < 24; which++) {
            long before = BEAN.getThreadAllocatedBytes(self);
            BlockWave wave = loud();
            for (int call = 0; call < CALLS; call++) {
                one(wave, which, call);
            }
            long made = BEAN.getThreadAllocatedBytes(self) - before;
            Due.yes("a run of call " + which + " made " + made + " bytes", made < ROOM);
        }
        Due.end("RoomTest");
    }

    /** The most points, as loud as can be: 34 calls. */
    private static BlockWave loud() {
        BlockWave wave = new BlockWave();
        wave.feed(0x73697A65, 0x2033323B, 0x20202020, 0x20202020, 0x20202020);
        wave.text(8);
        for (int place = 0; place < 32; place++) {
            wave.set(place, 1000 * place - 16000, 500 * place);
        }
        return wave;
    }

    private static void one(BlockWave wave, int which, int call) {
        switch (which) {
            case 0: wave.noise(-1, 20); break;
            case 1: wave.chance(-1, 99, 4); break;
            case 2: wave.best(); break;
            case 3: wave.loudest(); break;
            case 4: wave.bits(); break;
            case 5: wave.apart(); break;
            case 6: wave.returned(); break;
            case 7: wave.tried(3 + call % 2, 0); break;
            case 8: wave.sweep(8); break;
            case 9: wave.grown(5); break;
            case 10: if (call < 24) wave.note(call % 32, call % 97, true); else wave.values(call % 32); break;
            case 11: if (call < 24) wave.note(call % 32, call % 97, true); else wave.ask(call % 32, 2); break;
            case 12: wave.ahead(5, 1); break;
            case 13: if (call < 5) wave.beat(); else wave.worst(0); break;
            case 14: if (call < 5) wave.beat(); else wave.peak(31); break;
            case 15: wave.period(); break;
            case 16: wave.lag(); break;
            case 17: if (call % 2 == 0) wave.set(3, call, call); else wave.undo(); break;
            case 18: wave.taper(); break;
            case 19: wave.shift(5); break;
            case 20: if (call % 2 == 0) wave.keep(); else wave.back(); break;
            case 21: if (call % 2 == 0) wave.feed(call, call, call, call, call); else wave.text(20); break;
            case 22: if (call % 2 == 0) wave.feed(0x20202020, 0x20202020, 0x20202020, 0x20202020, 0x20202020); else wave.text(20); break;
            default: thrown(wave, call); break;
        }
    }

    private static void thrown(BlockWave wave, int call) {
        try {
            wave.point(call % 2 == 0 ? 32 : 0, 4);
        } catch (IndexOutOfBoundsException | NoSuchElementException e) {
            Due.yes("thrown", true);
        }
    }
}
