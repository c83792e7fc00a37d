import java.util.NoSuchElementException;

/** A wave of few points turned into its notes stage by stage, all of it with one exponent. */
public final class BlockWave {
    public static final int NONE = -1;

    private static final int NOT_NOW = -2;
    private static final int MOST_POINTS = 32;
    private static final int MOST_STAGES = 5;
    private static final int MOST_TAPE = 700;
    private static final int MOST_ROOM = 15;
    private static final int LEAST_BITS = 8;
    private static final int MOST_BITS = 16;
    private static final int MOST_AMOUNT = 99;
    private static final int MOST_EXP = 20;
    private static final int TRIES = 10;
    private static final int TRIES_WANTED = 5;
    private static final int WAYS = 8;
    private static final int RING = 97;
    private static final int VALUES_TRIED = 16;

    private final Way way = new Way();
    private final Wave wave = new Wave();
    private final Past past = new Past();
    private final Notes notes = new Notes();
    private final Ring ring = new Ring();
    private final Turns turns = new Turns();
    private final Beater beater = new Beater(turns);
    private final Reader reader = new Reader();
    private final Dice dice = new Dice();

    // Trials run on these, so that asking never makes new rows and never touches the wave itself.
    private final Way trialWay = new Way();
    private final Wave trial = new Wave();
    private final Wave otherTrial = new Wave();
    private final long[] sumsRe = new long[MOST_POINTS];
    private final long[] sumsIm = new long[MOST_POINTS];
    private final int[] tally = new int[RING];

    private final int[] image = new int[Wave.WIDTH];
    private boolean imageKept = false;
    private final int[] tape = new int[MOST_TAPE];
    private int taped = 0;

    public BlockWave() {
        turns.fit(way.log);
        ring.fit(way.size, way.log);
    }

    // ---- the text

    public int feed(int a, int b, int c, int d, int e) {
        if (taped + 20 > MOST_TAPE) {
            return NONE;
        }
        layDown(a);
        layDown(b);
        layDown(c);
        layDown(d);
        layDown(e);
        return taped;
    }

    private void layDown(int number) {
        for (int shift = 24; shift >= 0; shift -= 8) {
            if (taped < MOST_TAPE) {
                tape[taped] = (number >>> shift) & 255;
                taped++;
            }
        }
    }

    public int text(int n) {
        if (n < 0 || n > taped) {
            return NOT_NOW;
        }
        int lines = reader.readAll(tape, n);
        taped = 0;
        if (lines != NONE) {
            takeOver();
        }
        return lines;
    }

    private void takeOver() {
        way.copyFrom(reader.way);
        turns.fit(way.log);
        ring.fit(way.size, way.log);
        wave.begin(reader.re, reader.im);
        wave.settle();
        notes.forgetAll();
        past.forgetAll();
        imageKept = false;
    }

    public int fault(int what) {
        if (what == 0) {
            return reader.fault;
        }
        return what == 1 ? reader.faultPlace : NONE;
    }

    // ---- what is there

    public int point(int place, int what) throws IndexOutOfBoundsException, NoSuchElementException {
        if (!isPlace(place)) {
            throw new IndexOutOfBoundsException("no such place");
        }
        if (what < 0 || what > 3) {
            throw new NoSuchElementException("no such what");
        }
        if (what == 0) {
            return wave.re[place];
        }
        if (what == 1) {
            return wave.im[place];
        }
        return what == 2 ? wave.wasRe[place] : wave.wasIm[place];
    }

    public int turn(int j, int what) {
        if (!isPlace(j) || what < 0 || what > 1) {
            return Integer.MIN_VALUE;
        }
        return what == 0 ? turns.cos[j] : -turns.sin[j];
    }

    public int reversed(int place) {
        return isPlace(place) ? way.reversedPlace(place) : NONE;
    }

    public int digit(int place, int d) {
        if (!isPlace(place) || d < 0 || d >= way.stages) {
            return NONE;
        }
        return way.digitOf(place, d);
    }

    public int stage(int stage, int what) {
        if (stage < 0 || stage >= way.stages || what < 0 || what > 1) {
            return NONE;
        }
        if (what == 0) {
            return 1 << way.shifts[stage];
        }
        return stage < wave.done ? wave.halved[stage] : NOT_NOW;
    }

    public int largest() {
        return wave.greatest(0, way.size);
    }

    public int left() {
        return doublings(wave.greatest(0, way.size));
    }

    public int room(int block, int of) {
        boolean isLength = of == 2 || of == 4 || of == 8 || of == 16 || of == 32;
        if (!isLength || of > way.size || block < 0 || block > MOST_POINTS) {
            return NONE;
        }
        int from = block * of;
        if (from >= way.size) {
            return NONE;
        }
        return doublings(wave.greatest(from, from + of));
    }

    private int doublings(int greatest) {
        long grown = greatest;
        int times = 0;
        while (times < MOST_ROOM && grown * 2 <= way.limit) {
            grown *= 2;
            times++;
        }
        return times;
    }

    public long energy(int what) {
        if (what < 0 || what > 1) {
            return NONE;
        }
        long sum = 0;
        for (int place = 0; place < way.size; place++) {
            sum += what == 0
                    ? loudness(wave.re[place], wave.im[place])
                    : loudness(wave.wasRe[place], wave.wasIm[place]);
        }
        return sum;
    }

    private static long loudness(long re, long im) {
        return re * re + im * im;
    }

    public int over(int squares) {
        if (squares < 0) {
            return NONE;
        }
        int found = 0;
        for (int place = 0; place < way.size; place++) {
            if (loudness(wave.re[place], wave.im[place]) >= squares) {
                found++;
            }
        }
        return found;
    }

    public int count(int what) {
        switch (what) {
            case 0: return way.size;
            case 1: return way.wordBits;
            case 2: return way.radix;
            case 3: return way.order;
            case 4: return way.near;
            case 5: return way.stages;
            case 6: return wave.done;
            case 7: return wave.backward ? 1 : 0;
            case 8: return wave.exp;
            case 9: return way.limit;
            case 10: return notes.total;
            case 11: return notes.knownNow();
            case 12: return past.held;
            default: return Integer.MIN_VALUE;
        }
    }

    private boolean isPlace(int place) {
        return place >= 0 && place < way.size;
    }

    private int mirrored(int k) {
        return -k & (way.size - 1);
    }

    // ---- points changed before the first stage

    private boolean isFresh() {
        return wave.done == 0 && !wave.backward;
    }

    private boolean isInWord(long value) {
        return value <= way.limit && value >= -way.limit;
    }

    public boolean set(int place, int re, int im) {
        if (!isPlace(place) || !isInWord(re) || !isInWord(im) || !isFresh()) {
            return false;
        }
        past.remember(wave);
        wave.re[place] = re;
        wave.im[place] = im;
        wave.settle();
        return true;
    }

    public boolean taper() {
        if (!isFresh()) {
            return false;
        }
        past.remember(wave);
        for (int place = 0; place < way.size; place++) {
            int weight = 16384 - turns.cos[place];
            wave.re[place] = tapered(wave.re[place], weight);
            wave.im[place] = tapered(wave.im[place], weight);
        }
        wave.settle();
        return true;
    }

    private int tapered(int value, int weight) {
        long product = (long) value * weight;
        return (int) ((way.near == 1 ? product + 16384 : product) >> 15);
    }

    public boolean shift(int places) {
        if (places < 1 || places > 31 || !isFresh()) {
            return false;
        }
        past.remember(wave);
        beater.moveAll(wave, way.size, 1, places);
        wave.settle();
        return true;
    }

    public boolean turnRound() {
        if (!isFresh()) {
            return false;
        }
        past.remember(wave);
        beater.moveAll(wave, way.size, -1, 0);
        wave.settle();
        return true;
    }

    public boolean louder(int times) {
        if (times < 2 || times > 9 || !isFresh() || !isInWord((long) wave.greatest(0, way.size) * times)) {
            return false;
        }
        past.remember(wave);
        for (int place = 0; place < way.size; place++) {
            wave.re[place] *= times;
            wave.im[place] *= times;
        }
        wave.settle();
        return true;
    }

    // ---- stages

    private boolean isDoneForward() {
        return !wave.backward && wave.done >= way.stages;
    }

    public int beat() {
        if (wave.done >= way.stages) {
            return NOT_NOW;
        }
        past.remember(wave);
        return beater.doStage(wave, way, true);
    }

    public int beatAll() {
        beater.doStages(wave, way, MOST_STAGES, true);
        past.forgetAll();
        return wave.exp;
    }

    public boolean turnBack() {
        if (!isDoneForward()) {
            return false;
        }
        past.remember(wave);
        wave.goBack(way.size);
        return true;
    }

    public int ahead(int stages, int what) {
        if (stages < 0 || stages > MOST_STAGES || what < 0 || what > 2) {
            return NONE;
        }
        trial.goOnFrom(wave);
        int halvings = beater.doStages(trial, way, stages, true);
        if (what == 0) {
            return trial.exp;
        }
        return what == 1 ? trial.greatest(0, way.size) : halvings;
    }

    // ---- trials from the points as they were

    /** EXP of the trial, run forward: from 0 on it is as often as all is halved. */
    private int expWithBits(int bits) {
        trialWay.copyFrom(way);
        trialWay.takeBits(bits);
        trial.restartFrom(wave);
        return beater.doStages(trial, trialWay, MOST_STAGES, true);
    }

    public int bits() {
        for (int bits = LEAST_BITS; bits <= MOST_BITS; bits++) {
            if (expWithBits(bits) == 0) {
                return bits;
            }
        }
        return NOT_NOW;
    }

    public int sweep(int bits) {
        return bits < LEAST_BITS || bits > MOST_BITS ? NONE : expWithBits(bits);
    }

    public int grown(int stages) {
        if (stages < 0 || stages > MOST_STAGES) {
            return NONE;
        }
        trial.restartFrom(wave);
        beater.doStages(trial, way, stages, false);
        return trial.greatest(0, way.size);
    }

    public int tried(int what, int i) {
        if (what < 0 || what > 4 || (what == 2 ? !isPlace(i) : i != 0)) {
            return NONE;
        }
        if (what == 2) {
            return expWithout(i);
        }
        trialWay.copyFrom(way);
        if (what <= 1) {
            trialWay.near = what;
        } else if (what == 3) {
            trialWay.takeShape(way.radix == 2 ? 4 : 2, way.order);
        } else {
            trialWay.takeShape(way.radix, 1 - way.order);
        }
        trial.restartFrom(wave);
        return beater.doStages(trial, trialWay, MOST_STAGES, true);
    }

    private int expWithout(int place) {
        trial.restartFrom(wave);
        trial.re[place] = 0;
        trial.im[place] = 0;
        return beater.doStages(trial, way, MOST_STAGES, true);
    }

    public int loudest() {
        int found = 0;
        int least = Integer.MAX_VALUE;
        for (int place = 0; place < way.size; place++) {
            int exp = expWithout(place);
            if (exp < least) {
                least = exp;
                found = place;
            }
        }
        return found;
    }

    public long apart() {
        trialWay.copyFrom(way);
        trialWay.takeShape(way.radix, 1 - way.order);
        trial.restartFrom(wave);
        otherTrial.restartFrom(wave);
        beater.doStages(trial, trialWay, MOST_STAGES, true);
        beater.doStages(otherTrial, way, MOST_STAGES, true);
        long most = 0;
        for (int place = 0; place < way.size; place++) {
            long re = scaled(trial.re[place], trial.exp) - scaled(otherTrial.re[place], otherTrial.exp);
            long im = scaled(trial.im[place], trial.exp) - scaled(otherTrial.im[place], otherTrial.exp);
            most = Math.max(most, Math.max(Math.abs(re), Math.abs(im)));
        }
        return most;
    }

    public long returned() {
        trial.restartFrom(wave);
        int halvings = beater.doStages(trial, way, MOST_STAGES, true);
        trial.goBack(way.size);
        halvings += beater.doStages(trial, way, MOST_STAGES, true);
        long most = 0;
        for (int place = 0; place < way.size; place++) {
            long re = scaled(trial.re[place], halvings) - scaled(wave.wasRe[place], way.log);
            long im = scaled(trial.im[place], halvings) - scaled(wave.wasIm[place], way.log);
            most = Math.max(most, Math.max(Math.abs(re), Math.abs(im)));
        }
        return most;
    }

    private static long scaled(int value, int exp) {
        return (long) value << exp;
    }

    // ---- noise

    public int chance(int seed, int a, int exp) {
        if (seed < -1 || a < 1 || a > MOST_AMOUNT || exp < 0 || exp > MOST_EXP) {
            return NONE;
        }
        return noisyHits(seed, a, exp, 0);
    }

    public int noise(int seed, int exp) {
        if (seed < -1 || exp < 0 || exp > MOST_EXP) {
            return NONE;
        }
        for (int a = 1; a <= MOST_AMOUNT; a++) {
            if (noisyHits(seed, a, exp, TRIES_WANTED) >= TRIES_WANTED) {
                return a;
            }
        }
        return NOT_NOW;
    }

    /** With wanted above 0 it ends as soon as it is clear whether so many are reached: noise() tries 99 amounts. */
    private int noisyHits(int seed, int a, int exp, int wanted) {
        dice.last = seed == -1 ? way.seed : seed;
        int hits = 0;
        for (int tries = 1; tries <= TRIES; tries++) {
            trial.restartFrom(wave);
            addNoise(a);
            if (beater.doStages(trial, way, MOST_STAGES, true) >= exp) {
                hits++;
            }
            if (wanted > 0 && (hits >= wanted || hits + TRIES - tries < wanted)) {
                return hits;
            }
        }
        return hits;
    }

    private void addNoise(int a) {
        for (int place = 0; place < way.size; place++) {
            trial.re[place] = kept(trial.re[place] + dice.amount(a));
            trial.im[place] = kept(trial.im[place] + dice.amount(a));
        }
    }

    private int kept(int value) {
        return Math.max(-way.limit, Math.min(way.limit, value));
    }

    // ---- sums taken at once

    private long directSum(int k, boolean ofIm) {
        long sum = 0;
        for (int n = 0; n < way.size; n++) {
            int j = (n * k) & (way.size - 1);
            long cos = turns.cos[j];
            long sin = turns.sin[j];
            sum += ofIm
                    ? wave.wasIm[n] * cos - wave.wasRe[n] * sin
                    : wave.wasRe[n] * cos + wave.wasIm[n] * sin;
        }
        return sum;
    }

    private void fillSums() {
        for (int k = 0; k < way.size; k++) {
            sumsRe[k] = directSum(k, false);
            sumsIm[k] = directSum(k, true);
        }
    }

    /** How far off the sums a wave is at k; fillSums() comes first. */
    private long offSums(Wave turned, int k) {
        long re = scaled(turned.re[k], turned.exp) * 16384 - sumsRe[k];
        long im = scaled(turned.im[k], turned.exp) * 16384 - sumsIm[k];
        return Math.max(Math.abs(re), Math.abs(im));
    }

    private int worstPlace(Wave turned) {
        int found = 0;
        for (int k = 1; k < way.size; k++) {
            if (offSums(turned, k) > offSums(turned, found)) {
                found = k;
            }
        }
        return found;
    }

    public long direct(int k, int what) {
        if (!isPlace(k) || what < 0 || what > 1) {
            return Long.MIN_VALUE;
        }
        return directSum(k, what == 1);
    }

    public long off(int k) {
        if (!isPlace(k)) {
            return NONE;
        }
        if (!isDoneForward()) {
            return NOT_NOW;
        }
        fillSums();
        return offSums(wave, k);
    }

    public long worst(int what) {
        if (what < 0 || what > 1) {
            return NONE;
        }
        if (!isDoneForward()) {
            return NOT_NOW;
        }
        fillSums();
        int found = worstPlace(wave);
        return what == 1 ? found : offSums(wave, found);
    }

    public int best() {
        fillSums();
        int found = 0;
        long least = Long.MAX_VALUE;
        for (int choice = 0; choice < WAYS; choice++) {
            trialWay.copyFrom(way);
            trialWay.near = choice & 1;
            trialWay.takeShape((choice & 2) == 0 ? 2 : 4, choice >> 2);
            trial.restartFrom(wave);
            beater.doStages(trial, trialWay, MOST_STAGES, true);
            long greatestOff = offSums(trial, worstPlace(trial));
            if (greatestOff < least) {
                least = greatestOff;
                found = choice;
            }
        }
        return found;
    }

    // ---- notes of the wave, turned

    public int peak(int n) {
        if (!isPlace(n)) {
            return NONE;
        }
        if (!isDoneForward()) {
            return NOT_NOW;
        }
        int found = 0;
        for (int k = 0; k < way.size; k++) {
            if (louderOnes(k) == n) {
                found = k;
            }
        }
        return found;
    }

    private int louderOnes(int k) {
        long own = loudness(wave.re[k], wave.im[k]);
        int ahead = 0;
        for (int place = 0; place < way.size; place++) {
            long other = loudness(wave.re[place], wave.im[place]);
            if (other > own || (other == own && place < k)) {
                ahead++;
            }
        }
        return ahead;
    }

    public int mirror() {
        if (!isDoneForward()) {
            return NOT_NOW;
        }
        int most = 0;
        for (int k = 0; k < way.size; k++) {
            int there = mirrored(k);
            int re = Math.abs(wave.re[k] - wave.re[there]);
            int im = Math.abs(wave.im[k] + wave.im[there]);
            most = Math.max(most, Math.max(re, im));
        }
        return most;
    }

    public int pair(int k, int wave, int what) {
        if (!isPlace(k) || wave < 0 || wave > 1 || what < 0 || what > 1 || !isDoneForward()) {
            return Integer.MIN_VALUE;
        }
        int there = mirrored(k);
        int[] re = this.wave.re;
        int[] im = this.wave.im;
        if (wave == 0) {
            return what == 0 ? re[k] + re[there] : im[k] - im[there];
        }
        return what == 0 ? im[k] + im[there] : re[there] - re[k];
    }

    // ---- waves as they were, in whole numbers

    public long swing(int k, int what) {
        if (!isPlace(k) || what < 0 || what > 1) {
            return Long.MIN_VALUE;
        }
        long twice = 2L * turns.cos[k];
        long s = 0;
        long t = 0;
        for (int n = 0; n < way.size; n++) {
            long u = wave.wasRe[n] + ((s * twice + way.addedBeforeCut()) >> 14) - t;
            t = s;
            s = u;
        }
        return what == 0 ? s : t;
    }

    public long like(int k) {
        return isPlace(k) ? productSum(wave.wasRe, 1, k) : Long.MIN_VALUE;
    }

    public long crossed(int k) {
        return isPlace(k) ? productSum(wave.wasIm, 1, k) : Long.MIN_VALUE;
    }

    public long foldWhole(int k) {
        return isPlace(k) ? productSum(wave.wasIm, -1, k) : Long.MIN_VALUE;
    }

    /** RE at n times the row at k and n, or (sign -1) at k less n. */
    private long productSum(int[] row, int sign, int k) {
        long sum = 0;
        for (int n = 0; n < way.size; n++) {
            sum += (long) wave.wasRe[n] * row[(k + sign * n) & (way.size - 1)];
        }
        return sum;
    }

    public int period() {
        return greatestProduct(wave.wasRe, 1);
    }

    public int lag() {
        return greatestProduct(wave.wasIm, 0);
    }

    private int greatestProduct(int[] row, int from) {
        int found = from;
        long most = productSum(row, 1, from);
        for (int k = from + 1; k < way.size; k++) {
            long sum = productSum(row, 1, k);
            if (sum > most) {
                most = sum;
                found = k;
            }
        }
        return found;
    }

    // ---- the ring

    public int bin(int k) {
        return isPlace(k) ? ring.binWithout(wave.wasRe, k, NONE) : NONE;
    }

    public int fold(int k) {
        return isPlace(k) ? (int) Math.floorMod(productSum(wave.wasIm, -1, k), (long) RING) : NONE;
    }

    public int unfold(int k, int bin, int place) {
        if (!isPlace(k) || bin < 0 || bin >= RING || !isPlace(place)) {
            return NONE;
        }
        return ring.pointOf(k, bin, place);
    }

    // ---- what was told of the ring

    public int note(int k, int bin, boolean atLeast) {
        if (!isPlace(k) || bin < 0 || bin >= RING) {
            return NONE;
        }
        return notes.add(atLeast ? Notes.AT_LEAST : Notes.LESS, k, bin);
    }

    public int strike(int note) {
        if (note < 0 || note >= notes.total) {
            return NONE;
        }
        return notes.add(Notes.STRIKE, note, 0);
    }

    public boolean known(int n) {
        if (n < -1 || n > notes.total) {
            return false;
        }
        notes.knownBy = n;
        return true;
    }

    public int values(int place) {
        return isPlace(place) ? valuesOf(place) : NONE;
    }

    private int valuesOf(int place) {
        int standing = notes.standing();
        int values = (1 << VALUES_TRIED) - 1;
        for (int note = 0; note < notes.total; note++) {
            if ((standing >> note & 1) == 1 && notes.kinds[note] != Notes.STRIKE) {
                values &= valuesByNote(note, place);
            }
        }
        return values;
    }

    private int valuesByNote(int note, int place) {
        int k = notes.targets[note];
        int rest = ring.binWithout(wave.wasRe, k, place);
        boolean atLeast = notes.kinds[note] == Notes.AT_LEAST;
        int values = 0;
        for (int value = 0; value < VALUES_TRIED; value++) {
            boolean reached = ring.binWith(rest, value, k, place) >= notes.bins[note];
            if (reached == atLeast) {
                values |= 1 << value;
            }
        }
        return values;
    }

    public int ask(int place, int what) {
        if (!isPlace(place) || what < 0 || what > 2) {
            return NONE;
        }
        int values = valuesOf(place);
        int all = Integer.bitCount(values);
        int bestBin = 0;
        int bestNumber = 1;
        int fewest = all;
        for (int k = 0; k < way.size; k++) {
            tallyBins(values, k, place);
            int reached = all;
            for (int number = 1; number < RING; number++) {
                reached -= tally[number - 1];
                int atWorst = Math.max(reached, all - reached);
                if (atWorst < fewest) {
                    fewest = atWorst;
                    bestBin = k;
                    bestNumber = number;
                }
            }
        }
        if (what == 0) {
            return bestBin;
        }
        return what == 1 ? bestNumber : fewest;
    }

    /** How many of the values make the bin k each number of the ring. */
    private void tallyBins(int values, int k, int place) {
        for (int number = 0; number < RING; number++) {
            tally[number] = 0;
        }
        int rest = ring.binWithout(wave.wasRe, k, place);
        for (int value = 0; value < VALUES_TRIED; value++) {
            if ((values >> value & 1) == 1) {
                tally[ring.binWith(rest, value, k, place)]++;
            }
        }
    }

    // ---- undone, images

    public int undo() {
        return past.recall(wave) ? past.held : NONE;
    }

    public int keep() {
        wave.writeTo(image, 0);
        imageKept = true;
        return wave.done;
    }

    public int back() {
        if (!imageKept) {
            return NONE;
        }
        wave.readFrom(image, 0);
        past.forgetAll();
        return wave.done;
    }

    /** What the text tells of the way a wave is turned, and the stages that come of it. */
    private static final class Way {
        int size;
        int log;
        int wordBits;
        int limit;
        int radix;
        int order;
        int near;
        int seed;
        int stages;
        // Radices are 2 and 4: held as 1 and 2, so that nothing need be divided.
        final int[] shifts = new int[MOST_STAGES];

        Way() {
            takeDefaults();
        }

        void takeDefaults() {
            takeSize(8);
            takeBits(MOST_BITS);
            near = 1;
            seed = 0;
            takeShape(2, 0);
        }

        /** takeShape() must follow, if only in a copy: the stages come of the size, too. */
        void takeSize(int points) {
            size = points;
            log = 1;
            for (int power = 2; power <= MOST_STAGES; power++) {
                if (1 << power == points) {
                    log = power;
                }
            }
        }

        void takeBits(int bits) {
            wordBits = bits;
            limit = (1 << (bits - 1)) - 1;
        }

        void copyFrom(Way other) {
            size = other.size;
            log = other.log;
            takeBits(other.wordBits);
            near = other.near;
            seed = other.seed;
            takeShape(other.radix, other.order);
        }

        void takeShape(int newRadix, int newOrder) {
            radix = newRadix;
            order = newOrder;
            boolean odd = radix == 4 && (log & 1) == 1;
            int alike = radix == 4 ? log >> 1 : log;
            stages = 0;
            if (odd && order == 0) {
                addStage(1);
            }
            for (int stage = 0; stage < alike; stage++) {
                addStage(radix == 4 ? 2 : 1);
            }
            if (odd && order != 0) {
                addStage(1);
            }
        }

        private void addStage(int shift) {
            if (stages < MOST_STAGES) {
                shifts[stages] = shift;
                stages++;
            }
        }

        int reversedPlace(int place) {
            int rest = place;
            int result = 0;
            for (int stage = stages - 1; stage >= 0; stage--) {
                int shift = shifts[stage];
                result = (result << shift) | (rest & ((1 << shift) - 1));
                rest >>= shift;
            }
            return result;
        }

        int digitOf(int place, int d) {
            int rest = place;
            for (int stage = stages - 1; stage > stages - 1 - d; stage--) {
                rest >>= shifts[stage];
            }
            return rest & ((1 << shifts[stages - 1 - d]) - 1);
        }

        /** What rounds to the nearest when a cut by 16384 follows. */
        int addedBeforeCut() {
            return near == 1 ? 8192 : 0;
        }

        int growOf(int stage) {
            if (shifts[stage] == 2) {
                return 12;
            }
            return order == 0 ? 5 : 6;
        }
    }

    /** By what points are turned: a table of one quarter, laid out once for each size. */
    private static final class Turns {
        private static final int[] QUARTER = {16384, 16069, 15137, 13623, 11585, 9102, 6270, 3196, 0};

        final int[] cos = new int[MOST_POINTS];
        final int[] sin = new int[MOST_POINTS];

        void fit(int log) {
            for (int j = 0; j < MOST_POINTS; j++) {
                int k = j << (MOST_STAGES - log);
                cos[j] = cosine(k);
                sin[j] = cosine(k + 24);
            }
        }

        /** The quarter stands for the whole round: one half mirrors the other, and a quarter the next, below 0. */
        private static int cosine(int k) {
            int inRound = k & 31;
            int inHalf = inRound <= 16 ? inRound : 32 - inRound;
            return inHalf <= 8 ? QUARTER[inHalf] : -QUARTER[16 - inHalf];
        }
    }

    /** Points, as they are and as they were, and what the stages did to them. */
    private static final class Wave {
        static final int WIDTH = 4 * MOST_POINTS + MOST_STAGES + 3;

        final int[] re = new int[MOST_POINTS];
        final int[] im = new int[MOST_POINTS];
        final int[] wasRe = new int[MOST_POINTS];
        final int[] wasIm = new int[MOST_POINTS];
        final int[] halved = new int[MOST_STAGES];
        int exp = 0;
        int done = 0;
        boolean backward = false;

        void begin(int[] newRe, int[] newIm) {
            System.arraycopy(newRe, 0, re, 0, MOST_POINTS);
            System.arraycopy(newIm, 0, im, 0, MOST_POINTS);
            exp = 0;
            done = 0;
            backward = false;
        }

        /** For a trial: what a trial itself was is never asked. */
        void restartFrom(Wave other) {
            begin(other.wasRe, other.wasIm);
        }

        /** For a trial, too. */
        void goOnFrom(Wave other) {
            begin(other.re, other.im);
            exp = other.exp;
            done = other.done;
            backward = other.backward;
        }

        void settle() {
            System.arraycopy(re, 0, wasRe, 0, MOST_POINTS);
            System.arraycopy(im, 0, wasIm, 0, MOST_POINTS);
        }

        int greatest(int from, int to) {
            int most = 0;
            for (int place = from; place < to && place < MOST_POINTS; place++) {
                most = Math.max(most, Math.max(Math.abs(re[place]), Math.abs(im[place])));
            }
            return most;
        }

        void flipIm(int size) {
            for (int place = 0; place < size; place++) {
                im[place] = -im[place];
            }
        }

        void goBack(int size) {
            flipIm(size);
            backward = true;
            done = 0;
        }

        void writeTo(int[] cells, int start) {
            System.arraycopy(re, 0, cells, start, MOST_POINTS);
            System.arraycopy(im, 0, cells, start + MOST_POINTS, MOST_POINTS);
            System.arraycopy(wasRe, 0, cells, start + 2 * MOST_POINTS, MOST_POINTS);
            System.arraycopy(wasIm, 0, cells, start + 3 * MOST_POINTS, MOST_POINTS);
            int rest = start + 4 * MOST_POINTS;
            System.arraycopy(halved, 0, cells, rest, MOST_STAGES);
            cells[rest + MOST_STAGES] = exp;
            cells[rest + MOST_STAGES + 1] = done;
            cells[rest + MOST_STAGES + 2] = backward ? 1 : 0;
        }

        void readFrom(int[] cells, int start) {
            System.arraycopy(cells, start, re, 0, MOST_POINTS);
            System.arraycopy(cells, start + MOST_POINTS, im, 0, MOST_POINTS);
            System.arraycopy(cells, start + 2 * MOST_POINTS, wasRe, 0, MOST_POINTS);
            System.arraycopy(cells, start + 3 * MOST_POINTS, wasIm, 0, MOST_POINTS);
            int rest = start + 4 * MOST_POINTS;
            System.arraycopy(cells, rest, halved, 0, MOST_STAGES);
            exp = cells[rest + MOST_STAGES];
            done = cells[rest + MOST_STAGES + 1];
            backward = cells[rest + MOST_STAGES + 2] == 1;
        }
    }

    /** Does stages; holds the rows that they need meanwhile. */
    private static final class Beater {
        // Far above what any wave can need: a word has 16 bits.
        private static final int MOST_HALVINGS = 64;

        private final Turns turns;
        private final int[] spareRe = new int[MOST_POINTS];
        private final int[] spareIm = new int[MOST_POINTS];
        private final int[] wingRe = new int[4];
        private final int[] wingIm = new int[4];

        Beater(Turns turns) {
            this.turns = turns;
        }

        /** So many stages more, or as many as there are: how often all was halved. */
        int doStages(Wave wave, Way way, int most, boolean halving) {
            int halvings = 0;
            for (int turn = 0; turn < most && wave.done < way.stages; turn++) {
                halvings += doStage(wave, way, halving);
            }
            return halvings;
        }

        int doStage(Wave wave, Way way, boolean halving) {
            int stage = wave.done;
            boolean last = stage == way.stages - 1;
            if (way.order == 0 && stage == 0) {
                reverseAll(wave, way);
            }
            int halvings = halving ? halveAsNeeded(wave, way, way.growOf(stage)) : 0;
            beatWings(wave, way, stage);
            if (way.order != 0 && last) {
                reverseAll(wave, way);
            }
            wave.halved[stage] = halvings;
            wave.exp += halvings;
            wave.done++;
            if (wave.backward && last) {
                wave.flipIm(way.size);
                wave.exp -= way.log;
            }
            return halvings;
        }

        private void reverseAll(Wave wave, Way way) {
            for (int place = 0; place < way.size; place++) {
                int to = way.reversedPlace(place);
                spareRe[to] = wave.re[place];
                spareIm[to] = wave.im[place];
            }
            takeSpare(wave, way.size);
        }

        /** What is at a place goes to (sign times it, and added), round the end. */
        void moveAll(Wave wave, int size, int sign, int added) {
            for (int place = 0; place < size; place++) {
                int to = (sign * place + added) & (size - 1);
                spareRe[to] = wave.re[place];
                spareIm[to] = wave.im[place];
            }
            takeSpare(wave, size);
        }

        private void takeSpare(Wave wave, int size) {
            System.arraycopy(spareRe, 0, wave.re, 0, size);
            System.arraycopy(spareIm, 0, wave.im, 0, size);
        }

        private int halveAsNeeded(Wave wave, Way way, int grow) {
            int halvings = 0;
            while (halvings < MOST_HALVINGS && (long) wave.greatest(0, way.size) * grow > way.limit * 2L) {
                for (int place = 0; place < way.size; place++) {
                    wave.re[place] = (wave.re[place] + way.near) >> 1;
                    wave.im[place] = (wave.im[place] + way.near) >> 1;
                }
                halvings++;
            }
            return halvings;
        }

        private void beatWings(Wave wave, Way way, int stage) {
            int ahead = 0;
            for (int earlier = 0; earlier < stage; earlier++) {
                ahead += way.shifts[earlier];
            }
            int shift = way.shifts[stage];
            int spanLog = way.order == 0 ? ahead : way.log - ahead - shift;
            int span = 1 << spanLog;
            int unitLog = way.log - spanLog - shift;
            int groups = 1 << unitLog;
            for (int group = 0; group < groups; group++) {
                int start = group << (spanLog + shift);
                for (int k = 0; k < span; k++) {
                    beatWing(wave, way, start + k, spanLog, shift, k << unitLog);
                }
            }
        }

        private void beatWing(Wave wave, Way way, int start, int spanLog, int shift, int unit) {
            int radix = 1 << shift;
            for (int q = 0; q < radix; q++) {
                wingRe[q] = wave.re[start + (q << spanLog)];
                wingIm[q] = wave.im[start + (q << spanLog)];
            }
            if (way.order == 0) {
                turnWing(way, radix, unit);
            }
            if (shift == 1) {
                addTwo();
            } else {
                addFour();
            }
            if (way.order != 0) {
                turnWing(way, radix, unit);
            }
            for (int q = 0; q < radix; q++) {
                wave.re[start + (q << spanLog)] = wingRe[q];
                wave.im[start + (q << spanLog)] = wingIm[q];
            }
        }

        private void turnWing(Way way, int radix, int unit) {
            long added = way.addedBeforeCut();
            for (int q = 1; q < radix; q++) {
                long cos = turns.cos[q * unit];
                long sin = turns.sin[q * unit];
                long x = wingRe[q];
                long y = wingIm[q];
                wingRe[q] = (int) ((x * cos + y * sin + added) >> 14);
                wingIm[q] = (int) ((y * cos - x * sin + added) >> 14);
            }
        }

        private void addTwo() {
            int re = wingRe[0];
            int im = wingIm[0];
            wingRe[0] = re + wingRe[1];
            wingIm[0] = im + wingIm[1];
            wingRe[1] = re - wingRe[1];
            wingIm[1] = im - wingIm[1];
        }

        private void addFour() {
            int evenRe = wingRe[0] + wingRe[2];
            int evenIm = wingIm[0] + wingIm[2];
            int unlikeRe = wingRe[0] - wingRe[2];
            int unlikeIm = wingIm[0] - wingIm[2];
            int oddRe = wingRe[1] + wingRe[3];
            int oddIm = wingIm[1] + wingIm[3];
            // i times (b less d), which q 1 has below 0 and q 3 above.
            int sideRe = wingIm[3] - wingIm[1];
            int sideIm = wingRe[1] - wingRe[3];
            wingRe[0] = evenRe + oddRe;
            wingIm[0] = evenIm + oddIm;
            wingRe[1] = unlikeRe - sideRe;
            wingIm[1] = unlikeIm - sideIm;
            wingRe[2] = evenRe - oddRe;
            wingIm[2] = evenIm - oddIm;
            wingRe[3] = unlikeRe + sideRe;
            wingIm[3] = unlikeIm + sideIm;
        }
    }

    /** What can be undone: a ring of rows made once, the oldest of which gives way. */
    private static final class Past {
        private static final int MOST = 20;

        private final int[] cells = new int[MOST * Wave.WIDTH];
        private int next = 0;
        int held = 0;

        void remember(Wave wave) {
            wave.writeTo(cells, next * Wave.WIDTH);
            next = next + 1 < MOST ? next + 1 : 0;
            held = Math.min(MOST, held + 1);
        }

        boolean recall(Wave wave) {
            if (held == 0) {
                return false;
            }
            next = next > 0 ? next - 1 : MOST - 1;
            held--;
            wave.readFrom(cells, next * Wave.WIDTH);
            return true;
        }

        void forgetAll() {
            held = 0;
        }
    }

    /** Reads a text into rows of its own, so that all stays if there is a fault. */
    private static final class Reader {
        // Ten words of five signs each, blanks behind the short ones.
        private static final String WORDS = "size bits radixordernear seed real less side down ";
        private static final int WORD_LENGTH = 5;
        private static final int WORDS_IN_ALL = 10;
        private static final int SIZE = 0;
        private static final int BITS = 1;
        private static final int RADIX = 2;
        private static final int ORDER = 3;
        private static final int NEAR = 4;
        private static final int SEED = 5;
        private static final int LESS = 7;
        private static final int SIDE = 8;
        private static final int DOWN = 9;
        private static final int NO_WORD = -1;
        private static final int MOST_NUMBER = 99999;

        // Kinds of tokens.
        private static final int END = 0;
        private static final int WORD = 1;
        private static final int NUMBER = 2;
        private static final int STOP = 3;
        private static final int NO_TOKEN = 4;

        private static final int NO_FAULT = 0;
        private static final int WRONG_TOKEN = 1;
        private static final int TOO_MUCH = 2;
        private static final int TOLD_ALREADY = 3;

        final Way way = new Way();
        final int[] re = new int[MOST_POINTS];
        final int[] im = new int[MOST_POINTS];
        int fault = NO_FAULT;
        int faultPlace = NONE;

        private int toldWords;
        private int toldRe;
        private int toldIm;
        private int length;
        private int place;
        private int kind;
        private int start;
        private int number;

        /** How many lines the first signs of the tape are, or NONE with a fault. */
        int readAll(int[] tape, int signs) {
            begin(signs);
            int lines = 0;
            nextToken(tape);
            while (lines < MOST_TAPE && kind != END) {
                if (!readLine(tape)) {
                    return NONE;
                }
                lines++;
                nextToken(tape);
            }
            return lines;
        }

        private void begin(int signs) {
            way.takeDefaults();
            for (int point = 0; point < MOST_POINTS; point++) {
                re[point] = 0;
                im[point] = 0;
            }
            fault = NO_FAULT;
            faultPlace = NONE;
            toldWords = 0;
            toldRe = 0;
            toldIm = 0;
            length = signs;
            place = 0;
        }

        private boolean failAtToken(int which) {
            fault = which;
            faultPlace = start;
            return false;
        }

        private boolean readLine(int[] tape) {
            int word = kind == WORD ? wordHere(tape) : NO_WORD;
            boolean pointsTold = (toldRe | toldIm) != 0;
            if (word == NO_WORD || (pointsTold && (word == SIZE || word == BITS))) {
                return failAtToken(WRONG_TOKEN);
            }
            boolean told = word <= SEED ? readSetting(tape, word) : readPoint(tape, word);
            if (!told) {
                return false;
            }
            nextToken(tape);
            return kind == STOP || failAtToken(WRONG_TOKEN);
        }

        private boolean readSetting(int[] tape, int word) {
            if ((toldWords >> word & 1) == 1) {
                return failAtToken(TOLD_ALREADY);
            }
            toldWords |= 1 << word;
            nextToken(tape);
            if (kind != NUMBER) {
                return failAtToken(WRONG_TOKEN);
            }
            if (!isSetting(word)) {
                return failAtToken(TOO_MUCH);
            }
            takeSetting(word);
            return true;
        }

        private boolean isSetting(int word) {
            switch (word) {
                case SIZE: return number == 2 || number == 4 || number == 8 || number == 16 || number == 32;
                case BITS: return number >= LEAST_BITS && number <= MOST_BITS;
                case RADIX: return number == 2 || number == 4;
                case ORDER:
                case NEAR: return number <= 1;
                default: return number <= MOST_NUMBER;
            }
        }

        private void takeSetting(int word) {
            switch (word) {
                case SIZE: way.takeSize(number); break;
                case BITS: way.takeBits(number); break;
                case RADIX: way.radix = number; break;
                case ORDER: way.order = number; break;
                case NEAR: way.near = number; break;
                default: way.seed = number; break;
            }
        }

        private boolean readPoint(int[] tape, int word) {
            boolean ofIm = word >= SIDE;
            nextToken(tape);
            if (kind != NUMBER) {
                return failAtToken(WRONG_TOKEN);
            }
            if (number >= way.size) {
                return failAtToken(TOO_MUCH);
            }
            int point = number;
            if (((ofIm ? toldIm : toldRe) >> point & 1) == 1) {
                return failAtToken(TOLD_ALREADY);
            }
            nextToken(tape);
            if (kind != NUMBER) {
                return failAtToken(WRONG_TOKEN);
            }
            if (number > way.limit) {
                return failAtToken(TOO_MUCH);
            }
            takePoint(point, ofIm, word == LESS || word == DOWN ? -number : number);
            return true;
        }

        private void takePoint(int point, boolean ofIm, int value) {
            if (ofIm) {
                im[point] = value;
                toldIm |= 1 << point;
            } else {
                re[point] = value;
                toldRe |= 1 << point;
            }
        }

        private void nextToken(int[] tape) {
            while (place < length && (tape[place] == 10 || tape[place] == 32)) {
                place++;
            }
            start = place;
            if (place >= length) {
                kind = END;
            } else if (isLetter(tape[place])) {
                kind = WORD;
                while (place < length && isLetter(tape[place])) {
                    place++;
                }
            } else if (isDigit(tape[place])) {
                kind = NUMBER;
                readNumber(tape);
            } else {
                kind = tape[place] == ';' ? STOP : NO_TOKEN;
                place++;
            }
        }

        private void readNumber(int[] tape) {
            number = 0;
            while (place < length && isDigit(tape[place])) {
                // All above 99999 are alike, so a long row of digits can't wrap around.
                number = Math.min(MOST_NUMBER + 1, number * 10 + tape[place] - '0');
                place++;
            }
        }

        private static boolean isLetter(int sign) {
            return sign >= 'a' && sign <= 'z';
        }

        private static boolean isDigit(int sign) {
            return sign >= '0' && sign <= '9';
        }

        private int wordHere(int[] tape) {
            for (int word = 0; word < WORDS_IN_ALL; word++) {
                if (isWordHere(tape, word * WORD_LENGTH)) {
                    return word;
                }
            }
            return NO_WORD;
        }

        private boolean isWordHere(int[] tape, int at) {
            if (place - start > WORD_LENGTH) {
                return false;
            }
            for (int i = 0; i < WORD_LENGTH; i++) {
                int sign = start + i < place ? tape[start + i] : ' ';
                if (sign != WORDS.charAt(at + i)) {
                    return false;
                }
            }
            return true;
        }
    }

    /** Numbers by chance. */
    private static final class Dice {
        int last = 0;

        int amount(int a) {
            last = (last * 1103515245 + 12345) & Integer.MAX_VALUE;
            return Math.floorMod(last >> 16, 2 * a + 1) - a;
        }
    }

    /** Whole numbers modulo 97. */
    private static final class Ring {
        // For 2, 4, 8, 16, 32 points.
        private static final int[] ROOTS = {96, 22, 64, 8, 28};
        private static final int HALF_OF_ONE = 49;

        private final int[] powers = new int[MOST_POINTS];
        private int size = 2;
        private int log = 1;

        void fit(int points, int pointsLog) {
            size = points;
            log = pointsLog;
            int root = log >= 1 && log <= ROOTS.length ? ROOTS[log - 1] : 1;
            int power = 1;
            for (int exponent = 0; exponent < MOST_POINTS; exponent++) {
                powers[exponent] = power;
                power = power * root % RING;
            }
        }

        private int rootTo(int exponent) {
            return powers[exponent & (size - 1)];
        }

        /** The bin k of a row, but for what is at a place (NONE: all of it). */
        int binWithout(int[] row, int k, int place) {
            int sum = 0;
            for (int n = 0; n < size; n++) {
                if (n != place) {
                    sum += Math.floorMod(row[n], RING) * rootTo(n * k);
                }
            }
            return sum % RING;
        }

        int binWith(int rest, int value, int k, int place) {
            return (rest + value * rootTo(place * k)) % RING;
        }

        int pointOf(int k, int bin, int place) {
            int result = bin * rootTo(-k * place) % RING;
            for (int halving = 0; halving < log; halving++) {
                result = result * HALF_OF_ONE % RING;
            }
            return result;
        }
    }

    /** Notes and strikes, in one row of numbers. */
    private static final class Notes {
        static final int LESS = 0;
        static final int AT_LEAST = 1;
        static final int STRIKE = 2;
        private static final int MOST = 24;

        final int[] kinds = new int[MOST];
        // The bin that a note tells of, or what a strike strikes.
        final int[] targets = new int[MOST];
        final int[] bins = new int[MOST];
        int total = 0;
        int knownBy = -1;

        int add(int kind, int target, int bin) {
            if (total >= MOST) {
                return NONE;
            }
            kinds[total] = kind;
            targets[total] = target;
            bins[total] = bin;
            total++;
            return total - 1;
        }

        void forgetAll() {
            total = 0;
            knownBy = -1;
        }

        int knownNow() {
            return knownBy < 0 ? total : knownBy;
        }

        /** A bit for each of those known that isn't struck: what strikes comes behind what it strikes. */
        int standing() {
            int unstruck = (1 << knownNow()) - 1;
            for (int note = knownNow() - 1; note >= 0; note--) {
                if (kinds[note] == STRIKE && (unstruck >> note & 1) == 1) {
                    unstruck &= ~(1 << targets[note]);
                }
            }
            return unstruck;
        }
    }
}
