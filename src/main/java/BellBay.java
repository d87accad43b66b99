import java.util.Arrays;

/** A bay of churches that strike what they hear of one another. */
public final class BellBay {

    public static final int NONE = -1;

    private static final int NO_SUCH = -2;
    private static final int BELOW = -3;
    private static final int FAULTY = -4;
    private static final int HAS_NOTHING = -6;
    private static final int NOT_THERE = -7;
    private static final int UNLIKE = -8;
    private static final int NOTHING = -2000000;

    private static final int MOST_CHURCHES = 9;
    private static final int MOST_SECONDS = 300;
    private static final int MOST_EARS = 12;
    private static final int MOST_STARTS = 4;
    private static final int MOST_SPELLS = 6;
    private static final int MOST_STRIKES = 300;
    private static final int MOST_BYTES = 2000;
    private static final int MOST_NUMBERS = 60;
    private static final int MOST_HOUR = 99;
    private static final int MOST_TAKES = 60;
    private static final int MOST_WIND = 20;
    private static final int MOST_SEED = 2000000000;
    private static final int MOST_SEEDS = 20;
    private static final int BLOCK = 30;
    private static final int BLOCKS = MOST_SECONDS / BLOCK;
    private static final int SLOTS = 4;
    private static final int IMAGES = 3;

    private static final int EAGER = 0;
    private static final int PROUD = 1;
    private static final int LATE = 2;

    private static final int ACROSS = 0;
    private static final int ALONG = 1;
    private static final int AGAINST = 2;

    private static final int IN_FOG = 0;
    private static final int ON_DEAF = 1;
    private static final int AT_REST = 2;
    private static final int TO_PROUD = 3;
    private static final int TO_MUFFLED = 4;
    private static final int TOO_LATE = 5;
    private static final int TOO_HIGH = 6;
    private static final int TO_OTHERS = 7;
    private static final int LOSSES = 8;

    private static final int NO_FOG = 0;
    private static final int NO_DEAF = 1;
    private static final int NO_FUNERAL = 2;
    private static final int NO_WIND = 3;
    private static final int NO_REST = 4;
    private static final int NO_PRIDE = 5;
    private static final int NO_LATENESS = 6;

    private final byte[] tape;
    private int tapeLength;
    private final Reader reader;
    private final Bay told;
    private final Air air;
    private final Run now;
    private final Run trial;
    private final Supposed supposed;
    private final Search search;
    private final int[] chart;
    private boolean stale;
    private final Slot[] slots;
    private final Bay[] images;
    private int kept;

    public BellBay() {
        tape = new byte[MOST_BYTES];
        tapeLength = 0;
        reader = new Reader();
        told = new Bay();
        air = new Air();
        supposed = new Supposed();
        Dues dues = new Dues();
        now = new Run(told, air, supposed, dues);
        trial = new Run(told, air, supposed, dues);
        search = new Search(told, supposed, trial);
        chart = new int[MOST_SECONDS * MOST_CHURCHES];
        stale = true;
        slots = new Slot[SLOTS];
        for (int i = 0; i < SLOTS; i++) {
            slots[i] = new Slot();
        }
        images = new Bay[IMAGES];
        for (int i = 0; i < IMAGES; i++) {
            images[i] = new Bay();
        }
        kept = 0;
    }

    // ---- the tape and the bay that is told ----

    public int feed(int a, int b, int c, int d, int e) {
        if (tapeLength + 20 > MOST_BYTES) {
            return NONE;
        }
        putBytes(a);
        putBytes(b);
        putBytes(c);
        putBytes(d);
        putBytes(e);
        return tapeLength;
    }

    private void putBytes(int four) {
        for (int down = 24; down >= 0; down -= 8) {
            if (tapeLength < MOST_BYTES) {
                tape[tapeLength] = (byte) (four >> down);
                tapeLength++;
            }
        }
    }

    public int end(int n) {
        if (n < 0 || n > tapeLength) {
            return NONE;
        }
        tapeLength = n;
        return n;
    }

    public int bay() {
        boolean read = reader.read(tape, tapeLength);
        tapeLength = 0;
        if (!read) {
            return FAULTY;
        }
        told.copyFrom(reader.draft);
        renew();
        return told.lines;
    }

    private void renew() {
        air.blow(told);
        stale = true;
    }

    public int fault(int what) {
        if (what == 0) {
            return reader.fault;
        }
        return what == 1 ? reader.place : NONE;
    }

    public int church(int church, int what) {
        if (!isChurch(church)) {
            return NO_SUCH;
        }
        switch (what) {
            case 0:
                return told.kind[church];
            case 1:
                return told.late[church];
            case 2:
                return told.rests[church];
            case 3:
                return bit(told.muffled, church);
            default:
                return NO_SUCH;
        }
    }

    public int ear(int ear, int what) {
        if (!isEar(ear)) {
            return NO_SUCH;
        }
        switch (what) {
            case 0:
                return told.ears.hearer[ear];
            case 1:
                return told.ears.heard[ear];
            case 2:
                return told.ears.lag[ear];
            case 3:
                return told.ears.way[ear];
            case 4:
                return bit(told.severed, ear);
            default:
                return NO_SUCH;
        }
    }

    public int takes(int ear, int second) {
        if (!isEar(ear) || !isSecond(second)) {
            return NO_SUCH;
        }
        return told.ears.lagIn(ear, air.wind[second]);
    }

    // ---- strikes as they are ----

    public int strikes() {
        return hasBay() ? asItIs().total : NO_SUCH;
    }

    public int strike(int i, int what) {
        if (!hasBay() || what < 0 || what > 4) {
            return NO_SUCH;
        }
        Run run = asItIs();
        if (!run.has(i)) {
            return NONE;
        }
        switch (what) {
            case 0:
                return run.second[i];
            case 1:
                return run.church[i];
            case 2:
                return run.hour[i];
            case 3:
                return run.by[i];
            default:
                return run.ear[i];
        }
    }

    public int lost(int what) {
        if (!hasBay() || what < 0 || what >= LOSSES) {
            return NO_SUCH;
        }
        return asItIs().losses[what];
    }

    public int hour(int church, int second) {
        if (!isChurch(church) || !isSecond(second)) {
            return NO_SUCH;
        }
        asItIs();
        return struckLast(church, second);
    }

    public int many(int church) {
        if (!isChurch(church)) {
            return NO_SUCH;
        }
        Run run = asItIs();
        int sum = 0;
        for (int i = 0; i < run.total; i++) {
            if (run.church[i] == church) {
                sum++;
            }
        }
        return sum;
    }

    public int when(int church, int what) {
        if (!isChurch(church) || what < 0 || what > 2) {
            return NO_SUCH;
        }
        Run run = asItIs();
        int one = run.nextOf(church, 0);
        if (one == NONE) {
            return NONE;
        }
        if (what == 0) {
            return run.second[one];
        }
        if (what == 1) {
            return run.lastSecond[church];
        }
        int two = run.nextOf(church, one + 1);
        return two == NONE ? NONE : run.second[two] - run.second[one];
    }

    public int led(int church, int i) {
        if (!isChurch(church)) {
            return NO_SUCH;
        }
        if (i < 0) {
            return NONE;
        }
        Run run = asItIs();
        int at = run.nextOf(church, 0);
        for (int step = 0; step < i && at != NONE; step++) {
            at = run.by[at];
        }
        return at;
    }

    public int agree(int second) {
        if (!isSecond(second)) {
            return NO_SUCH;
        }
        asItIs();
        for (int s = second; s < told.seconds; s++) {
            if (allAgree(s)) {
                return s;
            }
        }
        return NONE;
    }

    private boolean allAgree(int second) {
        int hour = struckLast(0, second);
        for (int c = 1; c < told.churches; c++) {
            if (struckLast(c, second) != hour) {
                return false;
            }
        }
        return hour != 0;
    }

    public int noon(int hour, int what) {
        if (!hasBay() || !isHour(hour) || what < 0 || what > 3) {
            return NO_SUCH;
        }
        Run run = asItIs();
        if (what == 3) {
            return run.timesOf(hour);
        }
        int i = what == 2 ? run.latestOf(hour) : run.earliestOf(hour);
        if (i == NONE) {
            return NONE;
        }
        return what == 1 ? run.church[i] : run.second[i];
    }

    public int ship(int church, int other, int second) {
        if (!areTwo(church, other) || !isSecond(second)) {
            return NOTHING;
        }
        asItIs();
        return struckLast(church, second) - struckLast(other, second);
    }

    public int quiet() {
        return hasBay() ? asItIs().latest() : NO_SUCH;
    }

    // ---- muffling and cutting ----

    public int muffle(int church, int is) {
        if (!isChurch(church) || is < 0 || is > 1) {
            return NO_SUCH;
        }
        int was = bit(told.muffled, church);
        told.muffled = withBit(told.muffled, church, is);
        stale = true;
        return was;
    }

    public int cut(int ear, int is) {
        if (!isEar(ear) || is < 0 || is > 1) {
            return NO_SUCH;
        }
        int was = bit(told.severed, ear);
        told.severed = withBit(told.severed, ear, is);
        stale = true;
        return was;
    }

    public int night(int second, int what) {
        if (!isSecond(second) || what < 0 || what > 1) {
            return NO_SUCH;
        }
        supposed.asTold(told);
        supposed.stillFrom = second;
        return setAnswer(search.fewestChurches(), what);
    }

    public int spare(int church, int what) {
        if (!isChurch(church) || what < 0 || what > 1) {
            return NO_SUCH;
        }
        supposed.asTold(told);
        supposed.stillChurch = church;
        return setAnswer(search.fewestEars(), what);
    }

    public int hush(int n) {
        if (!hasBay() || n < 0 || n > MOST_STRIKES) {
            return NO_SUCH;
        }
        supposed.asTold(told);
        supposed.mostStrikes = n;
        return setAnswer(search.fewestEars(), 0);
    }

    private static int setAnswer(int set, int what) {
        return set == NONE || what == 1 ? set : Integer.bitCount(set);
    }

    public int needs(int church) {
        if (!isChurch(church)) {
            return NO_SUCH;
        }
        if (asItIs().nextOf(church, 0) == NONE) {
            return NONE;
        }
        int bits = 0;
        for (int e = 0; e < told.ears.total; e++) {
            if (bit(told.severed, e) == 0 && isSilentWithout(church, e)) {
                bits |= 1 << e;
            }
        }
        return bits;
    }

    private boolean isSilentWithout(int church, int ear) {
        supposed.asTold(told);
        supposed.severed |= 1 << ear;
        supposed.stillChurch = church;
        trial.play();
        return !trial.unwanted;
    }

    public int harm(int ear) {
        if (!isEar(ear)) {
            return NOTHING;
        }
        int before = asItIs().total;
        supposed.asTold(told);
        supposed.severed |= 1 << ear;
        trial.play();
        return before - trial.total;
    }

    // ---- what would be ----

    public int pan(int church, int second, int hour) {
        if (!isChurch(church) || !isSecond(second) || !isHour(hour)) {
            return NOTHING;
        }
        return playWithPan(church, second, hour) - asItIs().total;
    }

    private int playWithPan(int church, int second, int hour) {
        supposed.asTold(told);
        supposed.starts.add(church, second, hour);
        trial.play();
        return trial.total;
    }

    public int boy(int second, int hour) {
        if (!isSecond(second) || !isHour(hour)) {
            return NO_SUCH;
        }
        int best = 0;
        int most = NONE;
        for (int c = 0; c < told.churches; c++) {
            int total = playWithPan(c, second, hour);
            if (total > most) {
                most = total;
                best = c;
            }
        }
        return best;
    }

    public int gain(int n) {
        if (!hasBay() || n < -MOST_WIND || n > MOST_WIND) {
            return NOTHING;
        }
        return gained(asItIs().allStruckBy(told.churches), n);
    }

    private int gained(int before, int n) {
        if (before == NONE) {
            return NOTHING;
        }
        supposed.asTold(told);
        Arrays.fill(supposed.along, n);
        trial.play();
        int then = trial.allStruckBy(told.churches);
        return then == NONE ? NOTHING : before - then;
    }

    public int wise() {
        if (!hasBay()) {
            return NOTHING;
        }
        int before = asItIs().allStruckBy(told.churches);
        int best = NOTHING;
        int most = NOTHING;
        for (int n = -MOST_WIND; n <= MOST_WIND; n++) {
            int more = gained(before, n);
            if (more > most) {
                most = more;
                best = n;
            }
        }
        return best;
    }

    public int passes(int ear, int what) {
        if (!isEar(ear)) {
            return NO_SUCH;
        }
        switch (what) {
            case 0:
                return asItIs().fogged[ear];
            case 1:
                return asItIs().passed[ear];
            case 2:
                return asItIs().sent[ear];
            default:
                return NO_SUCH;
        }
    }

    // ---- which strike comes of which ----

    public int wave(int i) {
        if (!hasBay()) {
            return NO_SUCH;
        }
        Run run = asItIs();
        if (!run.has(i)) {
            return NONE;
        }
        int sum = 0;
        for (int j = i; j < run.total; j++) {
            if (run.comesOf(j, i)) {
                sum++;
            }
        }
        return sum;
    }

    public int depth(int i) {
        if (!hasBay()) {
            return NO_SUCH;
        }
        Run run = asItIs();
        return run.has(i) ? run.stepsOf(i) : NONE;
    }

    public int source(int i) {
        if (!hasBay()) {
            return NO_SUCH;
        }
        Run run = asItIs();
        return run.has(i) ? run.startOf(i) : NONE;
    }

    public int lap(int church) {
        if (!isChurch(church)) {
            return NO_SUCH;
        }
        Run run = asItIs();
        int one = run.nextOf(church, 0);
        if (one == NONE) {
            return NONE;
        }
        for (int j = one + 1; j < run.total; j++) {
            if (run.church[j] == church && run.comesOf(j, one)) {
                return run.second[j] - run.second[one];
            }
        }
        return NONE;
    }

    public int gap(int church) {
        if (!isChurch(church)) {
            return NO_SUCH;
        }
        Run run = asItIs();
        int widest = NONE;
        int before = NONE;
        for (int i = 0; i < run.total; i++) {
            if (run.church[i] == church) {
                if (before != NONE) {
                    widest = Math.max(widest, run.second[i] - before);
                }
                before = run.second[i];
            }
        }
        return widest;
    }

    public int waits(int church, int second) {
        if (!isChurch(church) || !isSecond(second)) {
            return NO_SUCH;
        }
        Run run = asItIs();
        for (int i = 0; i < run.total; i++) {
            if (run.church[i] == church && run.second[i] >= second) {
                return run.second[i] - second;
            }
        }
        return NONE;
    }

    public int rank(int church) {
        if (!isChurch(church)) {
            return NO_SUCH;
        }
        Run run = asItIs();
        int own = run.nextOf(church, 0);
        if (own == NONE) {
            return NONE;
        }
        int ahead = 0;
        for (int c = 0; c < told.churches; c++) {
            int other = run.nextOf(c, 0);
            if (other != NONE && other < own) {
                ahead++;
            }
        }
        return ahead;
    }

    // ---- the hours at the end of a second ----

    public int common(int second) {
        if (!isSecond(second)) {
            return NO_SUCH;
        }
        asItIs();
        return commonHour(second);
    }

    private int commonHour(int second) {
        int best = 0;
        int most = 0;
        for (int c = 0; c < told.churches; c++) {
            int hour = struckLast(c, second);
            int sharing = sharing(hour, second);
            if (hour != 0 && (sharing > most || sharing == most && hour < best)) {
                most = sharing;
                best = hour;
            }
        }
        return best;
    }

    private int sharing(int hour, int second) {
        int sum = 0;
        for (int c = 0; c < told.churches; c++) {
            if (struckLast(c, second) == hour) {
                sum++;
            }
        }
        return sum;
    }

    public int strayed(int second) {
        if (!isSecond(second)) {
            return NO_SUCH;
        }
        asItIs();
        int hour = commonHour(second);
        return hour == 0 ? told.churches : told.churches - sharing(hour, second);
    }

    public int splits() {
        if (!hasBay()) {
            return NO_SUCH;
        }
        asItIs();
        int sum = 0;
        for (int s = 0; s < told.seconds; s++) {
            if (isSplit(s)) {
                sum++;
            }
        }
        return sum;
    }

    private boolean isSplit(int second) {
        int one = 0;
        for (int c = 0; c < told.churches; c++) {
            int hour = struckLast(c, second);
            if (hour != 0) {
                if (one != 0 && hour != one) {
                    return true;
                }
                one = hour;
            }
        }
        return false;
    }

    public int silence(int what) {
        if (!hasBay() || what < 0 || what > 1) {
            return NO_SUCH;
        }
        Run run = asItIs();
        int longest = 0;
        int from = NONE;
        int next = 0;
        for (int i = 0; i <= run.total; i++) {
            int until = i < run.total ? run.second[i] : told.seconds;
            if (until - next > longest) {
                longest = until - next;
                from = next;
            }
            next = until + 1;
        }
        return what == 0 ? longest : from;
    }

    public int spread(int hour) {
        if (!hasBay() || !isHour(hour)) {
            return NO_SUCH;
        }
        Run run = asItIs();
        int one = run.earliestOf(hour);
        int two = run.latestOf(hour);
        return one == NONE || two == NONE ? NONE : run.second[two] - run.second[one];
    }

    public int without(int what) {
        if (!hasBay() || what < 0 || what > NO_LATENESS) {
            return NOTHING;
        }
        int before = asItIs().total;
        supposed.asTold(told);
        supposed.lacking = what;
        trial.play();
        return trial.total - before;
    }

    public int unheard(int i) {
        if (!hasBay() || !asItIs().has(i)) {
            return NOTHING;
        }
        return now.total - playUnheard(i);
    }

    private int playUnheard(int i) {
        supposed.asTold(told);
        supposed.dumb = i;
        trial.play();
        return trial.total;
    }

    public int key() {
        if (!hasBay()) {
            return NO_SUCH;
        }
        int best = NONE;
        int least = MOST_STRIKES + 1;
        int total = asItIs().total;
        for (int i = 0; i < total; i++) {
            int left = playUnheard(i);
            if (left < least) {
                least = left;
                best = i;
            }
        }
        return best;
    }

    public int behind(int church, int other, int what) {
        if (!areTwo(church, other) || what < 0 || what > 1) {
            return NOTHING;
        }
        Run run = asItIs();
        int sum = 0;
        int hours = 0;
        for (int h = 1; h <= MOST_HOUR; h++) {
            int one = run.earliestBy(church, h);
            int two = run.earliestBy(other, h);
            if (one != NONE && two != NONE) {
                sum += run.second[one] - run.second[two];
                hours++;
            }
        }
        return what == 0 ? sum : hours;
    }

    // ---- changes ----

    public int tune(int ear, int n) {
        if (!isEar(ear) || n < 1 || n > MOST_TAKES) {
            return NO_SUCH;
        }
        int was = told.ears.lag[ear];
        told.ears.lag[ear] = n;
        stale = true;
        return was;
    }

    public int shift(int start, int second) {
        if (!isStart(start) || !isSecond(second)) {
            return NO_SUCH;
        }
        int was = told.starts.second[start];
        told.starts.second[start] = second;
        stale = true;
        return was;
    }

    public int soon(int start) {
        if (!isStart(start)) {
            return NO_SUCH;
        }
        int best = 0;
        int most = NONE;
        supposed.asTold(told);
        for (int s = 0; s < told.seconds; s++) {
            supposed.starts.second[start] = s;
            trial.play();
            if (trial.total > most) {
                most = trial.total;
                best = s;
            }
        }
        return best;
    }

    // ---- rows of a log ----

    public int log(int slot) {
        int wrong = refusal(slot);
        if (wrong != 0) {
            return wrong;
        }
        asItIs();
        Slot row = slots[slot];
        int sum = 0;
        for (int i = 0; i + 2 < row.length; i += 3) {
            if (struckLast((int) row.numbers[i + 1], (int) row.numbers[i]) != row.numbers[i + 2]) {
                sum++;
            }
        }
        return sum;
    }

    public int began(int slot, int limit, int hour) {
        int wrong = refusalOf(slot, limit, hour);
        if (wrong != 0) {
            return wrong;
        }
        supposed.asTold(told);
        search.seek(slots[slot], limit, hour);
        return search.found;
    }

    public int first(int slot, int limit, int hour, int what) {
        if (what < 0 || what > 1) {
            return NO_SUCH;
        }
        int wrong = refusalOf(slot, limit, hour);
        if (wrong != 0) {
            return wrong;
        }
        supposed.asTold(told);
        search.seek(slots[slot], limit, hour);
        return what == 0 ? search.firstChurch : search.firstSecond;
    }

    public int sure(int slot, int limit, int hour) {
        int wrong = refusalOf(slot, limit, hour);
        if (wrong != 0) {
            return wrong;
        }
        supposed.asTold(told);
        search.seek(slots[slot], limit, hour);
        return search.firstChurch == search.lastChurch ? search.firstChurch : NONE;
    }

    public int odd(int slot) {
        int wrong = refusal(slot);
        return wrong != 0 ? wrong : asItIs().firstOdd(slots[slot]);
    }

    private int refusalOf(int slot, int limit, int hour) {
        return isSecond(limit) && isHour(hour) ? refusal(slot) : NO_SUCH;
    }

    private int refusal(int slot) {
        if (!isSlot(slot) || !hasBay()) {
            return NO_SUCH;
        }
        Slot row = slots[slot];
        if (!row.has) {
            return HAS_NOTHING;
        }
        return row.hasThrees(told.seconds, told.churches) ? 0 : NO_SUCH;
    }

    // ---- draws and bets ----

    public int drawn(int seed, int n, int what) {
        if (!hasBay() || !isDraw(seed, n) || what < 0 || what > 2) {
            return NO_SUCH;
        }
        playDrawn(seed, n);
        switch (what) {
            case 0:
                return trial.total;
            case 1:
                return trial.latest();
            default:
                return trial.struck;
        }
    }

    public int chance(int seed, int k, int n, int church, int hour) {
        if (!isDraw(seed, n) || k < 1 || k > MOST_SEEDS || !isChurch(church) || !isHour(hour)) {
            return NO_SUCH;
        }
        int sum = 0;
        for (int i = 0; i < k; i++) {
            playDrawn((long) seed + i, n);
            if (trial.earliestBy(church, hour) != NONE) {
                sum++;
            }
        }
        return sum;
    }

    private void playDrawn(long seed, int n) {
        supposed.asTold(told);
        supposed.draw(seed, n, told.seconds);
        trial.play();
    }

    public int bets(int slot) {
        if (!isSlot(slot) || !hasBay()) {
            return NO_SUCH;
        }
        Slot row = slots[slot];
        if (!row.has) {
            return HAS_NOTHING;
        }
        if (row.length != told.churches) {
            return NOT_THERE;
        }
        return row.hasSeconds(told.seconds) ? nearest(row) : NO_SUCH;
    }

    private int nearest(Slot row) {
        Run run = asItIs();
        int best = NONE;
        int least = MOST_SECONDS;
        for (int c = 0; c < told.churches; c++) {
            int i = run.nextOf(c, 0);
            int off = i == NONE ? MOST_SECONDS : Math.abs(run.second[i] - (int) row.numbers[c]);
            if (off < least) {
                least = off;
                best = c;
            }
        }
        return best;
    }

    // ---- counts, images, slots ----

    public int count(int what) {
        switch (what) {
            case 0:
                return told.churches;
            case 1:
                return told.seconds;
            case 2:
                return told.ears.total;
            case 3:
                return told.starts.total;
            case 4:
                return told.lines;
            case 5:
                return tapeLength;
            case 6:
                return told.muffled;
            case 7:
                return told.severed;
            case 8:
                return slotsWithRows();
            default:
                return NONE;
        }
    }

    private int slotsWithRows() {
        int sum = 0;
        for (int i = 0; i < SLOTS; i++) {
            if (slots[i].has) {
                sum++;
            }
        }
        return sum;
    }

    public int keep(int k) {
        if (k < 0 || k >= IMAGES) {
            return NO_SUCH;
        }
        images[k].copyFrom(told);
        kept |= 1 << k;
        return 0;
    }

    public int back(int k) {
        if (k < 0 || k >= IMAGES) {
            return NO_SUCH;
        }
        if (bit(kept, k) == 0) {
            return HAS_NOTHING;
        }
        told.copyFrom(images[k]);
        renew();
        return 0;
    }

    public int row(int slot, int width, int n) {
        if (!isSlot(slot) || width < 0 || width > 3 || n > MOST_NUMBERS) {
            return NO_SUCH;
        }
        if (n < 0) {
            return BELOW;
        }
        slots[slot].lay(width, n);
        return 0;
    }

    public int write(int slot, int i, long v) {
        if (!isSlot(slot)) {
            return NO_SUCH;
        }
        Slot row = slots[slot];
        if (!row.has) {
            return HAS_NOTHING;
        }
        if (i < 0 || i >= row.length) {
            return NOT_THERE;
        }
        row.numbers[i] = row.narrow(v);
        return 0;
    }

    public int paste(int slot, int i, int to, int k, int n) {
        if (!isSlot(slot) || !isSlot(to)) {
            return NO_SUCH;
        }
        Slot one = slots[slot];
        Slot other = slots[to];
        if (!one.has || !other.has) {
            return HAS_NOTHING;
        }
        if (one.width != other.width) {
            return UNLIKE;
        }
        if (!one.holds(i, n) || !other.holds(k, n)) {
            return NOT_THERE;
        }
        System.arraycopy(one.numbers, i, other.numbers, k, n);
        return 0;
    }

    // ---- what there is ----

    private boolean hasBay() {
        return told.lines > 0;
    }

    private boolean isChurch(int church) {
        return church >= 0 && church < told.churches;
    }

    private boolean isSecond(int second) {
        return second >= 0 && second < told.seconds;
    }

    private boolean isEar(int ear) {
        return ear >= 0 && ear < told.ears.total;
    }

    private boolean isStart(int start) {
        return start >= 0 && start < told.starts.total;
    }

    private boolean areTwo(int church, int other) {
        return isChurch(church) && isChurch(other) && church != other;
    }

    private static boolean isHour(int hour) {
        return hour >= 1 && hour <= MOST_HOUR;
    }

    private static boolean isSlot(int slot) {
        return slot >= 0 && slot < SLOTS;
    }

    private static boolean isDraw(int seed, int n) {
        return seed >= 0 && seed <= MOST_SEED && n >= 0 && n <= MOST_WIND;
    }

    private static int bit(int bits, int i) {
        return bits >> i & 1;
    }

    private static int withBit(int bits, int i, int is) {
        return is == 1 ? bits | 1 << i : bits & ~(1 << i);
    }

    // ---- runs ----

    /**
     * The run of the bay as it is; played anew only when something has changed. It uses what is
     * supposed, so it is asked for ahead of supposing anything else.
     */
    private Run asItIs() {
        if (stale) {
            supposed.asTold(told);
            now.play();
            fillChart();
            stale = false;
        }
        return now;
    }

    private void fillChart() {
        int i = 0;
        for (int s = 0; s < told.seconds; s++) {
            for (int c = 0; c < told.churches; c++) {
                int cell = s * MOST_CHURCHES + c;
                chart[cell] = s == 0 ? 0 : chart[cell - MOST_CHURCHES];
            }
            while (i < now.total && now.second[i] == s) {
                chart[s * MOST_CHURCHES + now.church[i]] = now.hour[i];
                i++;
            }
        }
    }

    private int struckLast(int church, int second) {
        return isChurch(church) && isSecond(second) ? chart[second * MOST_CHURCHES + church] : 0;
    }

    // ---- what is told ----

    /** The EARS of a bay. */
    private static final class Ears {
        int total;
        final int[] hearer = new int[MOST_EARS];
        final int[] heard = new int[MOST_EARS];
        final int[] lag = new int[MOST_EARS];
        final int[] way = new int[MOST_EARS];

        void add(int hears, int isHeard, int seconds, int how) {
            if (total < MOST_EARS) {
                hearer[total] = hears;
                heard[total] = isHeard;
                lag[total] = seconds;
                way[total] = how;
                total++;
            }
        }

        void takeFrom(Ears other) {
            total = other.total;
            System.arraycopy(other.hearer, 0, hearer, 0, MOST_EARS);
            System.arraycopy(other.heard, 0, heard, 0, MOST_EARS);
            System.arraycopy(other.lag, 0, lag, 0, MOST_EARS);
            System.arraycopy(other.way, 0, way, 0, MOST_EARS);
        }

        int lagIn(int ear, int wind) {
            if (way[ear] == ACROSS) {
                return lag[ear];
            }
            return Math.max(1, way[ear] == ALONG ? lag[ear] - wind : lag[ear] + wind);
        }
    }

    /** The starts; there is room for one more than can be told, the boy's. */
    private static final class Starts {
        int total;
        final int[] church = new int[MOST_STARTS + 1];
        final int[] second = new int[MOST_STARTS + 1];
        final int[] hour = new int[MOST_STARTS + 1];

        void add(int where, int at, int what) {
            if (total <= MOST_STARTS) {
                church[total] = where;
                second[total] = at;
                hour[total] = what;
                total++;
            }
        }

        void takeFrom(Starts other) {
            total = other.total;
            System.arraycopy(other.church, 0, church, 0, MOST_STARTS + 1);
            System.arraycopy(other.second, 0, second, 0, MOST_STARTS + 1);
            System.arraycopy(other.hour, 0, hour, 0, MOST_STARTS + 1);
        }
    }

    /** Winds, fogs, deaf ones or funerals: of a strength, an ear or a church, from a second to a second. */
    private static final class Spells {
        int total;
        final int[] of = new int[MOST_SPELLS];
        final int[] from = new int[MOST_SPELLS];
        final int[] to = new int[MOST_SPELLS];

        void add(int what, int begins, int ends) {
            if (total < MOST_SPELLS) {
                of[total] = what;
                from[total] = begins;
                to[total] = ends;
                total++;
            }
        }

        void takeFrom(Spells other) {
            total = other.total;
            System.arraycopy(other.of, 0, of, 0, MOST_SPELLS);
            System.arraycopy(other.from, 0, from, 0, MOST_SPELLS);
            System.arraycopy(other.to, 0, to, 0, MOST_SPELLS);
        }
    }

    /** All that is told of a bay, with who is muffled and which ears are cut; without lines it is no bay. */
    private static final class Bay {
        int churches;
        int seconds;
        int lines;
        int described;
        int muffled;
        int severed;
        final int[] kind = new int[MOST_CHURCHES];
        final int[] late = new int[MOST_CHURCHES];
        final int[] rests = new int[MOST_CHURCHES];
        final Ears ears = new Ears();
        final Starts starts = new Starts();
        final Spells winds = new Spells();
        final Spells fogs = new Spells();
        final Spells deafs = new Spells();
        final Spells funerals = new Spells();

        void empty() {
            churches = 0;
            seconds = 0;
            lines = 0;
            described = 0;
            muffled = 0;
            severed = 0;
            Arrays.fill(kind, EAGER);
            Arrays.fill(late, 0);
            Arrays.fill(rests, 0);
            ears.total = 0;
            starts.total = 0;
            winds.total = 0;
            fogs.total = 0;
            deafs.total = 0;
            funerals.total = 0;
        }

        void describe(int is, int seconds, int pause) {
            if (described < MOST_CHURCHES) {
                kind[described] = is;
                late[described] = seconds;
                rests[described] = pause;
                described++;
            }
        }

        void copyFrom(Bay other) {
            churches = other.churches;
            seconds = other.seconds;
            lines = other.lines;
            described = other.described;
            muffled = other.muffled;
            severed = other.severed;
            System.arraycopy(other.kind, 0, kind, 0, MOST_CHURCHES);
            System.arraycopy(other.late, 0, late, 0, MOST_CHURCHES);
            System.arraycopy(other.rests, 0, rests, 0, MOST_CHURCHES);
            ears.takeFrom(other.ears);
            starts.takeFrom(other.starts);
            winds.takeFrom(other.winds);
            fogs.takeFrom(other.fogs);
            deafs.takeFrom(other.deafs);
            funerals.takeFrom(other.funerals);
        }
    }

    /** Reads a tape, token by token, into a draft; behind the first fault nothing is read any more. */
    private static final class Reader {
        private static final int END = 0;
        private static final int WORD = 1;
        private static final int NUMBER = 2;
        private static final int SIGN = 3;
        private static final int STRANGE = 4;
        private static final int HUGE = 1000000;

        final Bay draft = new Bay();
        int fault = 0;
        int place = NONE;
        private byte[] bytes = new byte[0];
        private int length;
        private int token;
        private int from;
        private int to;
        private int value;

        boolean read(byte[] tape, int size) {
            bytes = tape;
            length = Math.min(size, tape.length);
            draft.empty();
            fault = 0;
            place = NONE;
            to = 0;
            advance();
            for (int i = 0; i <= length && token != END && fault == 0; i++) {
                readLine();
                draft.lines++;
            }
            return fault == 0;
        }

        private void advance() {
            from = to;
            while (from < length && (bytes[from] == 32 || bytes[from] == 10)) {
                from++;
            }
            to = from;
            if (from >= length) {
                token = END;
            } else if (isLetter(from)) {
                token = WORD;
                while (to < length && isLetter(to)) {
                    to++;
                }
            } else if (isDigit(from)) {
                token = NUMBER;
                value = 0;
                while (to < length && isDigit(to)) {
                    value = Math.min(HUGE, value * 10 + bytes[to] - '0');
                    to++;
                }
            } else {
                token = bytes[from] == ';' ? SIGN : STRANGE;
                to = from + 1;
            }
        }

        private boolean isLetter(int i) {
            return i < length && bytes[i] >= 'a' && bytes[i] <= 'z';
        }

        private boolean isDigit(int i) {
            return i < length && bytes[i] >= '0' && bytes[i] <= '9';
        }

        private void fail(int kind) {
            if (fault == 0) {
                fault = kind;
                place = from;
            }
        }

        private boolean isAt(String word) {
            if (token != WORD || word.length() != to - from) {
                return false;
            }
            for (int i = 0; i < word.length(); i++) {
                if (bytes[from + i] != word.charAt(i)) {
                    return false;
                }
            }
            return true;
        }

        private void word(String word) {
            if (fault == 0 && isAt(word)) {
                advance();
            } else {
                fail(1);
            }
        }

        private int number(int least, int most) {
            if (fault != 0) {
                return least;
            }
            if (token != NUMBER) {
                fail(1);
                return least;
            }
            if (value < least || value > most) {
                fail(2);
                return least;
            }
            int read = value;
            advance();
            return read;
        }

        private void stop() {
            if (fault == 0 && token == SIGN) {
                advance();
            } else {
                fail(1);
            }
        }

        private void readLine() {
            if (draft.lines == 0) {
                readBay();
            } else if (isAt("church")) {
                readChurch();
            } else if (isAt("ear")) {
                readEar();
            } else if (isAt("wind")) {
                readWind();
            } else if (isAt("fog")) {
                beginLine(draft.fogs.total, MOST_SPELLS);
                word("on");
                readSpell(draft.fogs, draft.ears.total - 1);
            } else if (isAt("deaf")) {
                beginLine(draft.deafs.total, MOST_SPELLS);
                readSpell(draft.deafs, draft.churches - 1);
            } else if (isAt("funeral")) {
                beginLine(draft.funerals.total, MOST_SPELLS);
                word("at");
                readSpell(draft.funerals, draft.churches - 1);
            } else if (isAt("starts")) {
                readStart();
            } else {
                fail(1);
            }
        }

        /** A line's first word, where there may be one more such line. */
        private void beginLine(int total, int most) {
            if (total >= most) {
                fail(3);
            } else {
                advance();
            }
        }

        private void readBay() {
            word("bay");
            word("churches");
            int churches = number(1, MOST_CHURCHES);
            word("seconds");
            int seconds = number(1, MOST_SECONDS);
            stop();
            if (fault == 0) {
                draft.churches = churches;
                draft.seconds = seconds;
            }
        }

        private void readChurch() {
            beginLine(draft.described, draft.churches);
            int kind = EAGER;
            int late = 0;
            if (isAt("late")) {
                word("late");
                kind = LATE;
                late = number(1, MOST_TAKES);
            } else if (isAt("proud")) {
                word("proud");
                kind = PROUD;
            } else {
                word("eager");
            }
            word("rests");
            int rests = number(0, 99);
            stop();
            if (fault == 0) {
                draft.describe(kind, late, rests);
            }
        }

        private void readEar() {
            beginLine(draft.ears.total, MOST_EARS);
            int hearer = number(0, draft.churches - 1);
            word("of");
            if (fault == 0 && token == NUMBER && value == hearer) {
                fail(2);
            }
            int heard = number(0, draft.churches - 1);
            word("takes");
            int lag = number(1, MOST_TAKES);
            int way = readWay();
            stop();
            if (fault == 0) {
                draft.ears.add(hearer, heard, lag, way);
            }
        }

        private int readWay() {
            if (isAt("along")) {
                word("along");
                return ALONG;
            }
            if (isAt("against")) {
                word("against");
                return AGAINST;
            }
            word("across");
            return ACROSS;
        }

        private void readWind() {
            beginLine(draft.winds.total, MOST_SPELLS);
            word("at");
            int at = number(0, draft.seconds - 1);
            boolean against = isAt("against");
            word(against ? "against" : "along");
            int wind = number(0, MOST_WIND);
            stop();
            if (fault == 0) {
                draft.winds.add(against ? -wind : wind, at, at);
            }
        }

        private void readSpell(Spells spells, int most) {
            int of = number(0, most);
            word("from");
            int begins = number(0, draft.seconds - 1);
            word("to");
            int ends = number(begins, draft.seconds - 1);
            stop();
            if (fault == 0) {
                spells.add(of, begins, ends);
            }
        }

        private void readStart() {
            beginLine(draft.starts.total, MOST_STARTS);
            int where = number(0, draft.churches - 1);
            word("at");
            int at = number(0, draft.seconds - 1);
            word("hour");
            int hour = number(1, MOST_HOUR);
            stop();
            if (fault == 0) {
                draft.starts.add(where, at, hour);
            }
        }
    }

    // ---- what comes about ----

    /** What is in the air second by second: wind along, ears in fog, deaf churches and funerals as bits. */
    private static final class Air {
        final int[] wind = new int[MOST_SECONDS];
        final int[] fog = new int[MOST_SECONDS];
        final int[] deaf = new int[MOST_SECONDS];
        final int[] funeral = new int[MOST_SECONDS];

        void blow(Bay bay) {
            spreadBits(bay.fogs, fog);
            spreadBits(bay.deafs, deaf);
            spreadBits(bay.funerals, funeral);
            int blowing = 0;
            for (int s = 0; s < bay.seconds; s++) {
                for (int i = 0; i < bay.winds.total; i++) {
                    if (bay.winds.from[i] == s) {
                        blowing = bay.winds.of[i];
                    }
                }
                wind[s] = blowing;
            }
        }

        private static void spreadBits(Spells spells, int[] bits) {
            Arrays.fill(bits, 0);
            for (int i = 0; i < spells.total; i++) {
                for (int s = spells.from[i]; s <= spells.to[i] && s < bits.length; s++) {
                    bits[s] |= 1 << spells.of[i];
                }
            }
        }
    }

    /** What is supposed in a run, and which strike is not wanted in it: it ends the run. */
    private static final class Supposed {
        int muffled;
        int severed;
        final Starts starts = new Starts();
        final int[] along = new int[BLOCKS];
        int lacking;
        int dumb;
        int until;
        int stillChurch;
        int stillFrom;
        int mostStrikes;

        void asTold(Bay bay) {
            muffled = bay.muffled;
            severed = bay.severed;
            starts.takeFrom(bay.starts);
            Arrays.fill(along, 0);
            lacking = NONE;
            dumb = NONE;
            until = bay.seconds - 1;
            stillChurch = NONE;
            stillFrom = MOST_SECONDS;
            mostStrikes = MOST_STRIKES;
        }

        void draw(long seed, int n, int seconds) {
            long x = seed;
            for (int i = 0; i < BLOCKS && i * BLOCK < seconds; i++) {
                x = (1103515245L * x + 12345L) % 2147483648L;
                along[i] = (int) (x / 65536L % (2L * n + 1L)) - n;
            }
        }
    }

    /** What is due in each second at each church: the best, and how many others give way to it. */
    private static final class Dues {
        final int[] waiting = new int[MOST_SECONDS];
        final int[] hour = new int[MOST_SECONDS * MOST_CHURCHES];
        final int[] by = new int[MOST_SECONDS * MOST_CHURCHES];
        final int[] ear = new int[MOST_SECONDS * MOST_CHURCHES];
        final int[] others = new int[MOST_SECONDS * MOST_CHURCHES];
        int from = MOST_SECONDS;
        int to = NONE;

        void clear() {
            for (int s = from; s <= to; s++) {
                waiting[s] = 0;
            }
            from = MOST_SECONDS;
            to = NONE;
        }

        void put(int second, int church, int newHour, int newBy, int newEar) {
            int cell = second * MOST_CHURCHES + church;
            from = Math.min(from, second);
            to = Math.max(to, second);
            if ((waiting[second] >> church & 1) == 0) {
                waiting[second] |= 1 << church;
                others[cell] = 0;
            } else {
                others[cell]++;
                if (newHour <= hour[cell]) {
                    return;
                }
            }
            hour[cell] = newHour;
            by[cell] = newBy;
            ear[cell] = newEar;
        }
    }

    /** The strikes of a bay in order, and what is lost. */
    private static final class Run {
        private final Bay bay;
        private final Air air;
        private final Supposed as;
        private final Dues dues;
        int total;
        final int[] second = new int[MOST_STRIKES];
        final int[] church = new int[MOST_STRIKES];
        final int[] hour = new int[MOST_STRIKES];
        final int[] by = new int[MOST_STRIKES];
        final int[] ear = new int[MOST_STRIKES];
        final int[] losses = new int[LOSSES];
        final int[] fogged = new int[MOST_EARS];
        final int[] passed = new int[MOST_EARS];
        final int[] sent = new int[MOST_EARS];
        final int[] lastSecond = new int[MOST_CHURCHES];
        final int[] lastHour = new int[MOST_CHURCHES];
        int struck;
        private boolean over;
        boolean unwanted;

        Run(Bay told, Air blowing, Supposed supposed, Dues shared) {
            bay = told;
            air = blowing;
            as = supposed;
            dues = shared;
        }

        void play() {
            begin();
            for (int s = dues.from; s <= dues.to && s <= as.until && !over; s++) {
                for (int c = 0; c < bay.churches && dues.waiting[s] >> c != 0 && !over; c++) {
                    if (bit(dues.waiting[s], c) == 1 && isStruck(s, c)) {
                        ring(s, c);
                        goOut(total - 1);
                    }
                }
            }
        }

        private void begin() {
            total = 0;
            struck = 0;
            over = false;
            unwanted = false;
            Arrays.fill(losses, 0);
            Arrays.fill(fogged, 0);
            Arrays.fill(passed, 0);
            Arrays.fill(sent, 0);
            dues.clear();
            for (int i = 0; i < as.starts.total; i++) {
                dues.put(as.starts.second[i], as.starts.church[i], as.starts.hour[i], NONE, NONE);
            }
        }

        /** Whether what is due is struck; if not, it is lost, as are others than the best in any case. */
        private boolean isStruck(int s, int c) {
            int cell = s * MOST_CHURCHES + c;
            boolean before = bit(struck, c) == 1;
            losses[TO_OTHERS] += dues.others[cell];
            if (bit(as.muffled, c) == 1) {
                losses[TO_MUFFLED]++;
                return false;
            }
            if (before && as.lacking != NO_REST && s - lastSecond[c] <= bay.rests[c]) {
                losses[AT_REST]++;
                return false;
            }
            if (before && isProud(c) && dues.hour[cell] <= lastHour[c]) {
                losses[TO_PROUD]++;
                return false;
            }
            return total < MOST_STRIKES;
        }

        private boolean isProud(int c) {
            return bay.kind[c] == PROUD && as.lacking != NO_PRIDE;
        }

        private void ring(int s, int c) {
            int cell = s * MOST_CHURCHES + c;
            second[total] = s;
            church[total] = c;
            hour[total] = dues.hour[cell];
            by[total] = dues.by[cell];
            ear[total] = dues.ear[cell];
            lastSecond[c] = s;
            lastHour[c] = hour[total];
            struck |= 1 << c;
            total++;
            unwanted = c == as.stillChurch || s >= as.stillFrom || total > as.mostStrikes;
            over = unwanted || total >= MOST_STRIKES;
        }

        private void goOut(int i) {
            if (over || i == as.dumb) {
                return;
            }
            for (int e = 0; e < bay.ears.total; e++) {
                if (bay.ears.heard[e] == church[i] && bit(as.severed, e) == 0) {
                    sent[e]++;
                    carry(i, e);
                }
            }
        }

        private void carry(int i, int e) {
            int listener = bay.ears.hearer[e];
            int at = second[i] + bay.ears.lagIn(e, windIn(second[i]));
            if (at >= bay.seconds) {
                losses[TOO_LATE]++;
            } else if (as.lacking != NO_FOG && bit(air.fog[at], e) == 1) {
                losses[IN_FOG]++;
                fogged[e]++;
            } else if (as.lacking != NO_DEAF && bit(air.deaf[at], listener) == 1) {
                losses[ON_DEAF]++;
            } else {
                hear(i, e, at, listener);
            }
        }

        private int windIn(int s) {
            int block = Math.min(s / BLOCK, BLOCKS - 1);
            return as.along[block] + (as.lacking == NO_WIND ? 0 : air.wind[s]);
        }

        private void hear(int i, int e, int at, int listener) {
            int more = as.lacking == NO_FUNERAL ? 0 : bit(air.funeral[at], listener);
            int due = at + (as.lacking == NO_LATENESS ? 0 : bay.late[listener]);
            if (hour[i] + more > MOST_HOUR) {
                losses[TOO_HIGH]++;
            } else if (due >= bay.seconds) {
                losses[TOO_LATE]++;
            } else {
                passed[e]++;
                dues.put(due, listener, hour[i] + more, i, e);
            }
        }

        // What follows looks at strikes that were made.

        boolean has(int i) {
            return i >= 0 && i < total;
        }

        int latest() {
            return total == 0 ? NONE : second[total - 1];
        }

        int nextOf(int c, int start) {
            for (int i = start; i < total; i++) {
                if (church[i] == c) {
                    return i;
                }
            }
            return NONE;
        }

        int earliestOf(int h) {
            for (int i = 0; i < total; i++) {
                if (hour[i] == h) {
                    return i;
                }
            }
            return NONE;
        }

        int latestOf(int h) {
            for (int i = total - 1; i >= 0; i--) {
                if (hour[i] == h) {
                    return i;
                }
            }
            return NONE;
        }

        int timesOf(int h) {
            int sum = 0;
            for (int i = 0; i < total; i++) {
                if (hour[i] == h) {
                    sum++;
                }
            }
            return sum;
        }

        int earliestBy(int c, int h) {
            for (int i = 0; i < total; i++) {
                if (church[i] == c && hour[i] == h) {
                    return i;
                }
            }
            return NONE;
        }

        /** The second by which each church has made its first strike; NONE if one makes none. */
        int allStruckBy(int churches) {
            int latest = NONE;
            for (int c = 0; c < churches; c++) {
                int i = nextOf(c, 0);
                if (i == NONE) {
                    return NONE;
                }
                latest = Math.max(latest, second[i]);
            }
            return latest;
        }

        int earsOfStrikes() {
            int bits = 0;
            for (int i = 0; i < total; i++) {
                if (ear[i] != NONE) {
                    bits |= 1 << ear[i];
                }
            }
            return bits;
        }

        boolean comesOf(int i, int origin) {
            int at = i;
            for (int step = 0; step < total && at > origin; step++) {
                at = by[at];
            }
            return at == origin;
        }

        int stepsOf(int i) {
            int steps = 0;
            for (int at = i; by[at] != NONE && steps < total; at = by[at]) {
                steps++;
            }
            return steps;
        }

        int startOf(int i) {
            int at = i;
            for (int step = 0; step < total && by[at] != NONE; step++) {
                at = by[at];
            }
            return at;
        }

        /** The first three of a row (second, church, hour) that was not struck; NONE if all were. */
        int firstOdd(Slot row) {
            for (int i = 0; i + 2 < row.length; i += 3) {
                if (!wasStruck(row.numbers[i], row.numbers[i + 1], row.numbers[i + 2])) {
                    return i / 3;
                }
            }
            return NONE;
        }

        private boolean wasStruck(long s, long c, long h) {
            for (int i = 0; i < total && second[i] <= s; i++) {
                if (second[i] == s && church[i] == c && hour[i] == h) {
                    return true;
                }
            }
            return false;
        }
    }

    /** Looks for the fewest churches or ears, and for starts that would explain a row. */
    private static final class Search {
        private final Bay bay;
        private final Supposed as;
        private final Run run;
        private final byte[] open = new byte[1 << MOST_EARS];
        int found;
        int firstChurch;
        int firstSecond;
        int lastChurch;

        Search(Bay told, Supposed supposed, Run trial) {
            bay = told;
            as = supposed;
            run = trial;
        }

        /** The least of the smallest sets of churches without which nothing unwanted is struck; NONE: none. */
        int fewestChurches() {
            int muffled = as.muffled;
            openFirst(bay.churches);
            for (int size = 0; size <= bay.churches; size++) {
                for (int set = 0; set < 1 << bay.churches; set++) {
                    if (isOpen(set, size)) {
                        as.muffled = muffled | set;
                        run.play();
                        if (!run.unwanted) {
                            return set;
                        }
                        widen(set, run.struck);
                    }
                }
            }
            return NONE;
        }

        /** The same of ears. */
        int fewestEars() {
            int severed = as.severed;
            openFirst(bay.ears.total);
            for (int size = 0; size <= bay.ears.total; size++) {
                for (int set = 0; set < 1 << bay.ears.total; set++) {
                    if (isOpen(set, size)) {
                        as.severed = severed | set;
                        run.play();
                        if (!run.unwanted) {
                            return set;
                        }
                        widen(set, run.earsOfStrikes());
                    }
                }
            }
            return NONE;
        }

        private void openFirst(int all) {
            Arrays.fill(open, 0, 1 << all, (byte) 0);
            open[0] = 1;
        }

        private boolean isOpen(int set, int size) {
            return open[set] == 1 && Integer.bitCount(set) == size;
        }

        /**
         * Behind a set that failed, those are tried that have one part more by which something was
         * struck: without any other part the same would have been struck, the unwanted too.
         */
        private void widen(int set, int parts) {
            for (int i = 0; i < MOST_EARS; i++) {
                if (bit(parts, i) == 1) {
                    open[set | 1 << i] = 1;
                }
            }
        }

        /** All starts, each alone, by which each three of a row was struck. */
        void seek(Slot row, int limit, int hour) {
            found = 0;
            firstChurch = NONE;
            firstSecond = NONE;
            lastChurch = NONE;
            int latest = row.leastSecond(limit);
            as.until = row.mostSecond();
            for (int c = 0; c < bay.churches; c++) {
                for (int s = 0; s <= latest; s++) {
                    as.starts.total = 0;
                    as.starts.add(c, s, hour);
                    run.play();
                    if (run.firstOdd(row) == NONE) {
                        note(c, s);
                    }
                }
            }
        }

        private void note(int church, int second) {
            if (found == 0) {
                firstChurch = church;
                firstSecond = second;
            }
            lastChurch = church;
            found++;
        }
    }

    /** A row of numbers of one width, or nothing. */
    private static final class Slot {
        boolean has;
        int width;
        int length;
        final long[] numbers = new long[MOST_NUMBERS];

        void lay(int newWidth, int n) {
            has = true;
            width = newWidth;
            length = Math.min(n, MOST_NUMBERS);
            Arrays.fill(numbers, 0L);
        }

        long narrow(long v) {
            switch (width) {
                case 0:
                    return (byte) v;
                case 1:
                    return (short) v;
                case 2:
                    return (int) v;
                default:
                    return v;
            }
        }

        boolean holds(int i, int n) {
            return i >= 0 && n >= 0 && (long) i + n <= length;
        }

        boolean hasThrees(int seconds, int churches) {
            if (length % 3 != 0) {
                return false;
            }
            for (int i = 0; i + 2 < length; i += 3) {
                if (!isBelow(i, seconds) || !isBelow(i + 1, churches)) {
                    return false;
                }
            }
            return true;
        }

        boolean hasSeconds(int seconds) {
            for (int i = 0; i < length; i++) {
                if (!isBelow(i, seconds)) {
                    return false;
                }
            }
            return true;
        }

        private boolean isBelow(int i, int most) {
            return numbers[i] >= 0 && numbers[i] < most;
        }

        /** The least second of all threes, the limit at most: no start behind it can have struck that. */
        int leastSecond(int limit) {
            long least = limit;
            for (int i = 0; i < length; i += 3) {
                least = Math.min(least, numbers[i]);
            }
            return (int) least;
        }

        int mostSecond() {
            long most = 0;
            for (int i = 0; i < length; i += 3) {
                most = Math.max(most, numbers[i]);
            }
            return (int) most;
        }
    }
}
