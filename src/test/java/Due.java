import java.nio.charset.StandardCharsets;
import java.util.Arrays;
import java.util.NoSuchElementException;

/** What tests share: answers counted against what is due, and texts fed as bytes. */
final class Due {
    private static int asked = 0;
    private static int wrong = 0;

    private Due() {
    }

    static void is(String call, long got, long want) {
        asked++;
        if (got != want) {
            wrong++;
            System.out.println(call + " answered " + got + ", due is " + want);
        }
    }

    static void yes(String call, boolean got) {
        is(call, got ? 1 : 0, 1);
    }

    static void no(String call, boolean got) {
        is(call, got ? 1 : 0, 0);
    }

    static int wrong() {
        return wrong;
    }

    static void end(String name) {
        System.out.println(name + ": " + asked + " answers, " + wrong + " not as due");
        if (wrong != 0 || asked == 0) {
            System.exit(1);
        }
    }

    /** The numbers by which feed() lays down a text, blanks behind it; five for each call. */
    static int[] numbers(String text) {
        byte[] signs = text.getBytes(StandardCharsets.ISO_8859_1);
        byte[] padded = Arrays.copyOf(signs, (signs.length + 19) / 20 * 20);
        Arrays.fill(padded, signs.length, padded.length, (byte) ' ');
        int[] numbers = new int[padded.length / 4];
        for (int i = 0; i < numbers.length; i++) {
            for (int part = 0; part < 4; part++) {
                numbers[i] = numbers[i] << 8 | (padded[4 * i + part] & 255);
            }
        }
        return numbers;
    }

    /** Feeds a text (on an empty tape) and has just that text read. */
    static int tell(BlockWave wave, String text) {
        int[] n = numbers(text);
        for (int i = 0; i < n.length; i += 5) {
            wave.feed(n[i], n[i + 1], n[i + 2], n[i + 3], n[i + 4]);
        }
        return wave.text(text.length());
    }

    static BlockWave told(String text) {
        BlockWave wave = new BlockWave();
        if (tell(wave, text) < 0) {
            throw new IllegalArgumentException(text);
        }
        return wave;
    }

    /** Told, and all stages done. */
    static BlockWave done(String text) {
        BlockWave wave = told(text);
        wave.beatAll();
        return wave;
    }

    /** Done, and gone back, no stage of which is done. */
    static BlockWave gone(String text) {
        BlockWave wave = done(text);
        yes("turnBack() of '" + text + "'", wave.turnBack());
        return wave;
    }

    /** Numbers that are none of 0 .. (count less 1), the nearest and the farthest. */
    static int[] outside(int count) {
        return new int[] {-1, count, -2, count + 1, Integer.MIN_VALUE, Integer.MAX_VALUE};
    }

    /** All that can be seen of an object without changing it. */
    static String seen(BlockWave wave) {
        StringBuilder all = new StringBuilder();
        int size = wave.count(0);
        for (int place = 0; place < size; place++) {
            for (int what = 0; what <= 3; what++) {
                all.append(wave.point(place, what)).append(' ');
            }
        }
        for (int what = 0; what <= 12; what++) {
            all.append(wave.count(what)).append(' ');
        }
        for (int stage = 0; stage < 5; stage++) {
            all.append(wave.stage(stage, 1)).append(' ');
        }
        return all.append(wave.fault(0)).append(' ').append(wave.fault(1)).append(' ').append(wave.values(0)).toString();
    }

    /** Nothing that can be seen is another behind these calls. */
    static void stays(String calls, BlockWave wave, Runnable called) {
        String before = seen(wave);
        called.run();
        String behind = seen(wave);
        asked++;
        if (!behind.equals(before)) {
            wrong++;
            System.out.println(calls + " left " + behind + ", due is " + before);
        }
    }

    static void fault(String text, int which, int place) {
        BlockWave wave = new BlockWave();
        is("text of '" + text + "'", tell(wave, text), -1);
        is("fault(0) of '" + text + "'", wave.fault(0), which);
        is("fault(1) of '" + text + "'", wave.fault(1), place);
    }

    /** RE and IM of all places, now. */
    static void points(String call, BlockWave wave, int... reAndIm) {
        for (int place = 0; place < reAndIm.length / 2; place++) {
            is(call + ": point(" + place + ", 0)", wave.point(place, 0), reAndIm[2 * place]);
            is(call + ": point(" + place + ", 1)", wave.point(place, 1), reAndIm[2 * place + 1]);
        }
    }

    /** 0 nothing, 1 IndexOutOfBoundsException, 2 NoSuchElementException. */
    static int thrownBy(BlockWave wave, int place, int what) {
        try {
            wave.point(place, what);
            return 0;
        } catch (IndexOutOfBoundsException e) {
            return e.getClass() == IndexOutOfBoundsException.class ? 1 : 3;
        } catch (NoSuchElementException e) {
            return e.getClass() == NoSuchElementException.class ? 2 : 3;
        }
    }
}
