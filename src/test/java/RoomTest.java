import com.sun.management.ThreadMXBean;
import java.lang.management.ManagementFactory;

/** No call makes rows or objects: all calls of a run live in one room. */
public final class RoomTest {
    private RoomTest() {
    }

    public static void main(String[] args) {
        ThreadMXBean bean = (ThreadMXBean) ManagementFactory.getThreadMXBean();
        long self = Thread.currentThread().getId();
        askAll(loud());
        long before = bean.getThreadAllocatedBytes(self);
        BlockWave wave = loud();
        long made = bean.getThreadAllocatedBytes(self) - before;
        Due.yes("one object in 40,000 bytes: " + made, made < 40000);
        before = bean.getThreadAllocatedBytes(self);
        for (int i = 0; i < 10; i++) {
            askAll(wave);
        }
        long asked = bean.getThreadAllocatedBytes(self) - before;
        Due.yes("asking makes nothing: " + asked, asked < 2000);
        Due.end("RoomTest");
    }

    private static BlockWave loud() {
        BlockWave wave = new BlockWave();
        wave.feed(0x73697A65, 0x2033323B, 0x20202020, 0x20202020, 0x20202020);
        wave.text(8);
        for (int place = 0; place < 32; place++) {
            wave.set(place, 1000 * place - 16000, 500 * place);
        }
        return wave;
    }

    private static long askAll(BlockWave wave) {
        long sum = wave.noise(-1, 20) + wave.chance(-1, 9, 4) + wave.best() + wave.loudest() + wave.bits();
        sum += wave.apart() + wave.returned() + wave.tried(3, 0) + wave.tried(4, 0) + wave.sweep(8) + wave.grown(5);
        sum += wave.note(3, 4, true) + wave.values(3) + wave.ask(3, 2) + wave.unfold(1, 2, 3) + wave.fold(3) + wave.lag();
        sum += wave.keep() + wave.beatAll() + wave.worst(0) + wave.peak(31) + wave.mirror() + wave.period() + wave.back();
        sum += wave.beat() + wave.undo() + wave.ahead(5, 1) + wave.energy(0) + wave.swing(3, 0);
        sum += wave.taper() && wave.shift(3) && wave.turnRound() ? wave.undo() + wave.undo() + wave.undo() : 0;
        return sum + wave.feed(0x3F3F3F3F, 0, 0, 0, 0) + wave.text(20) + wave.fault(1);
    }
}
