import java.util.Arrays;

/** A settle of seats that give or take years, and the callers who are worn down on it. */
public final class WearingBench {
    public static final int NONE = -1;

    private static final int NO_SUCH = -2;
    private static final int BELOW_ZERO = -3;
    private static final int FAULTY = -4;
    private static final int ACTS_FORBID = -5;
    private static final int NOTHING = -6;
    private static final int BEYOND = -7;
    private static final int UNLIKE = -8;
    private static final int NO_YEARS = -100;

    private static final int SEATS = 6;
    private static final int CALLERS = 5;
    private static final int LAST_MINUTE = 60;
    private static final int MINUTES = 61;
    private static final int NEVER = 61;
    private static final int LAST_COMING = 30;
    private static final int LONGEST_EVERY = 30;
    private static final int LAWS = 4;
    private static final int OLDEST = 99;
    private static final int MOST_GIVEN = 9;
    private static final int ACTS = 40;
    private static final int TAPE_BYTES = 800;
    private static final int SLOTS = 4;
    private static final int WIDTHS = 4;
    private static final int ROW_NUMBERS = 60;
    private static final int IMAGES = 3;
    private static final int MARKS = 10;
    private static final int CHANCE_CALLS = 10;
    private static final int LAST_SEED = 2000000000;
    private static final int MOST_DAYS = 20;
    private static final int MOST_ROWS = 7776;

    private static final int STANDS = -1;
    private static final int AWAY = -2;
    private static final int GONE = -3;

    private final Tape tape = new Tape();
    private final Bench now = new Bench();
    private final Bench trial = new Bench();
    private final Bench[] images = new Bench[IMAGES];
    private final Row[] rows = new Row[SLOTS];
    private final Diary today = new Diary();
    private final Diary otherDay = new Diary();
    private final Day probe = new Day();
    private final Planner planner = new Planner();
    private final Chances chances = new Chances();
    private final Pile pile = new Pile();
    private final Game game = new Game();
    private final int[] seen = new int[SEATS * MINUTES];

    public WearingBench() {
        for (int slot = 0; slot < SLOTS; slot++) {
            rows[slot] = new Row();
        }
    }

    // ---- the tape and the bench told by it

    public int feed(int a, int b, int c, int d, int e) {
        if (!tape.hasRoom(20)) {
            return NONE;
        }
        tape.put(a);
        tape.put(b);
        tape.put(c);
        tape.put(d);
        tape.put(e);
        return tape.size;
    }

    public int end(int n) {
        if (n < 0 || n > tape.size) {
            return NONE;
        }
        tape.size = n;
        return n;
    }

    public int bench() {
        boolean sound = tape.read(trial);
        tape.size = 0;
        if (!sound) {
            return FAULTY;
        }
        now.copyFrom(trial);
        forgetAnswers();
        return now.lines;
    }

    public int fault(int what) {
        if (what == 0) {
            return tape.fault;
        }
        return what == 1 ? tape.place : NONE;
    }

    public int seat(int seat) {
        return now.hasSeat(seat) ? now.gives[seat] : NO_YEARS;
    }

    public int caller(int caller, int what) {
        if (!now.hasCaller(caller)) {
            return NO_SUCH;
        }
        switch (what) {
            case 0:
                return now.age[caller];
            case 1:
                return now.comes[caller];
            case 2:
                return now.seat[caller];
            case 3:
                return now.least[caller];
            case 4:
                return now.most[caller];
            default:
                return NO_SUCH;
        }
    }

    // ---- the day as it is now

    public int age(int caller, int minute) {
        if (!now.hasCaller(caller) || !isMinute(minute)) {
            return NO_SUCH;
        }
        return livedToday().ageAt(caller, minute);
    }

    public int sits(int caller, int minute) {
        if (!now.hasCaller(caller) || !isMinute(minute)) {
            return NO_SUCH;
        }
        return livedToday().seatAt(caller, minute);
    }

    public int stands(int minute) {
        if (!hasBench() || !isMinute(minute)) {
            return NO_SUCH;
        }
        Diary day = livedToday();
        int bits = 0;
        for (int c = 0; c < now.callers; c++) {
            if (day.isThere(c, minute) && day.seatAt(c, minute) == NONE) {
                bits |= 1 << c;
            }
        }
        return bits;
    }

    public int free(int minute) {
        if (!hasBench() || !isMinute(minute)) {
            return NO_SUCH;
        }
        Diary day = livedToday();
        int bits = (1 << now.seats) - 1;
        for (int c = 0; c < now.callers; c++) {
            int taken = day.seatAt(c, minute);
            if (taken != NONE) {
                bits &= ~(1 << taken);
            }
        }
        return bits;
    }

    public int goes(int minute) {
        if (!hasBench() || !isMinute(minute)) {
            return NO_SUCH;
        }
        Day day = livedToday().day;
        for (int c = 0; c < now.callers; c++) {
            if (day.wentAt[c] == minute) {
                return c;
            }
        }
        return NONE;
    }

    public int called(int caller) {
        return now.hasCaller(caller) ? livedToday().day.wentAt[caller] : NO_SUCH;
    }

    public int ends(int caller) {
        return now.hasCaller(caller) ? livedToday().day.endOf(now, caller) : NO_SUCH;
    }

    public int told() {
        return hasBench() ? livedToday().day.toldBits(now) : NO_SUCH;
    }

    public int forgotten() {
        return hasBench() ? livedToday().day.forgottenBits(now) : NO_SUCH;
    }

    public int gun() {
        if (!hasBench()) {
            return NO_SUCH;
        }
        Day day = livedToday().day;
        int first = NONE;
        for (int c = 0; c < now.callers; c++) {
            boolean tooYoung = day.endOf(now, c) == Day.TOO_YOUNG;
            if (tooYoung && (first == NONE || day.wentAt[c] < first)) {
                first = day.wentAt[c];
            }
        }
        return first;
    }

    public int waits(int caller) {
        if (!now.hasCaller(caller)) {
            return NO_SUCH;
        }
        int went = livedToday().day.wentAt[caller];
        return (went == NONE ? LAST_MINUTE : went) - now.comes[caller];
    }

    public int worn(int caller, int seat) {
        if (!now.hasCaller(caller) || !now.hasSeat(seat)) {
            return NO_SUCH;
        }
        return livedToday().minutesOn(caller, seat);
    }

    public int dip(int seat) {
        return now.hasSeat(seat) ? wearOf(livedToday(), seat) : NO_SUCH;
    }

    public int deepest() {
        if (!hasBench()) {
            return NO_SUCH;
        }
        Diary day = livedToday();
        int found = NONE;
        int most = 0;
        for (int s = 0; s < now.seats; s++) {
            int worn = wearOf(day, s);
            if (worn > most) {
                most = worn;
                found = s;
            }
        }
        return found;
    }

    public int youngest(int minute) {
        if (!hasBench() || !isMinute(minute)) {
            return NO_SUCH;
        }
        return foremost(livedToday(), minute, -1);
    }

    public int oldest(int minute) {
        if (!hasBench() || !isMinute(minute)) {
            return NO_SUCH;
        }
        return foremost(livedToday(), minute, 1);
    }

    public int meets(int caller, int other) {
        if (!now.hasCaller(caller) || !now.hasCaller(other)) {
            return NO_SUCH;
        }
        Diary day = livedToday();
        for (int m = 0; m < MINUTES; m++) {
            if (day.areOfOneAge(caller, other, m)) {
                return m;
            }
        }
        return NONE;
    }

    public int ripe(int caller) {
        if (!now.hasCaller(caller)) {
            return NO_SUCH;
        }
        Diary day = livedToday();
        for (int m = 0; m < MINUTES; m++) {
            if (isRipeAt(day, caller, m)) {
                return m;
            }
        }
        return NONE;
    }

    public int window(int caller) {
        if (!now.hasCaller(caller)) {
            return NO_SUCH;
        }
        Diary day = livedToday();
        int minutes = 0;
        for (int m = 0; m < MINUTES; m++) {
            if (isRipeAt(day, caller, m)) {
                minutes++;
            }
        }
        return minutes;
    }

    public int misses(int caller) {
        if (!now.hasCaller(caller)) {
            return NO_SUCH;
        }
        Day day = livedToday().day;
        if (day.wentAt[caller] == NONE) {
            return NONE;
        }
        int years = day.wentAge[caller];
        return Math.max(0, Math.max(now.least[caller] - years, years - now.most[caller]));
    }

    public int grown(int caller) {
        if (!now.hasCaller(caller)) {
            return NO_YEARS;
        }
        Day day = livedToday().day;
        return day.wentAt[caller] == NONE ? 0 : day.wentAge[caller] - now.age[caller];
    }

    public int beside(int caller, int minute) {
        if (!now.hasCaller(caller) || !isMinute(minute)) {
            return NO_SUCH;
        }
        Diary day = livedToday();
        int own = day.seatAt(caller, minute);
        int bits = 0;
        for (int c = 0; own != NONE && c < now.callers; c++) {
            int taken = day.seatAt(c, minute);
            if (taken != NONE && Math.abs(taken - own) == 1) {
                bits |= 1 << c;
            }
        }
        return bits;
    }

    public int crowd() {
        if (!hasBench()) {
            return NO_SUCH;
        }
        Diary day = livedToday();
        int most = 0;
        for (int m = 0; m < MINUTES; m++) {
            int there = 0;
            for (int c = 0; c < now.callers; c++) {
                if (day.isThere(c, m)) {
                    there++;
                }
            }
            most = Math.max(most, there);
        }
        return most;
    }

    public int next(int minute) {
        if (!hasBench() || !isMinute(minute)) {
            return NO_SUCH;
        }
        Diary day = livedToday();
        int found = NONE;
        for (int c = 0; c < now.callers; c++) {
            if (day.isThere(c, minute) && (found == NONE || now.comes[c] < now.comes[found])) {
                found = c;
            }
        }
        return found;
    }

    public int years(int minute) {
        if (!hasBench() || !isMinute(minute)) {
            return NO_SUCH;
        }
        Diary day = livedToday();
        int sum = 0;
        for (int c = 0; c < now.callers; c++) {
            if (day.isThere(c, minute)) {
                sum += day.ageAt(c, minute);
            }
        }
        return sum;
    }

    public int last() {
        if (!hasBench()) {
            return NO_SUCH;
        }
        Day day = livedToday().day;
        int latest = NONE;
        for (int c = 0; c < now.callers; c++) {
            latest = Math.max(latest, day.wentAt[c]);
        }
        return latest;
    }

    public int twins(int minute) {
        if (!hasBench() || !isMinute(minute)) {
            return NO_SUCH;
        }
        Diary day = livedToday();
        int pairs = 0;
        for (int c = 0; c < now.callers; c++) {
            for (int other = c + 1; other < now.callers; other++) {
                if (day.areOfOneAge(c, other, minute)) {
                    pairs++;
                }
            }
        }
        return pairs;
    }

    public int opens(int seat) {
        if (!now.hasSeat(seat)) {
            return NO_SUCH;
        }
        Diary day = livedToday();
        for (int m = 0; m < MINUTES; m++) {
            for (int c = 0; c < now.callers; c++) {
                if (day.seatAt(c, m) == seat) {
                    return c;
                }
            }
        }
        return NONE;
    }

    // ---- the day as it would be

    public int without(int caller) {
        if (!now.hasCaller(caller)) {
            return NO_SUCH;
        }
        trial.copyFrom(now);
        trial.comes[caller] = NEVER;
        return toldOnTrial();
    }

    public int helps(int caller) {
        int others = without(caller);
        return others == NO_SUCH ? NO_SUCH : others & ~told();
    }

    public int less(int seat) {
        if (!now.hasSeat(seat)) {
            return NO_SUCH;
        }
        trial.copyFrom(now);
        trial.gives[seat] = 0;
        return toldOnTrial();
    }

    public int tuned(int seat) {
        if (!now.hasSeat(seat)) {
            return NO_YEARS;
        }
        trial.copyFrom(now);
        int found = -MOST_GIVEN;
        int most = NONE;
        for (int years = -MOST_GIVEN; years <= MOST_GIVEN; years++) {
            trial.gives[seat] = years;
            int told = Integer.bitCount(toldOnTrial());
            if (told > most) {
                most = told;
                found = years;
            }
        }
        return found;
    }

    public int moved(int caller, int minute) {
        if (!now.hasCaller(caller) || !isMinute(minute)) {
            return NO_SUCH;
        }
        int bits = 0;
        for (int s = 0; s < now.seats; s++) {
            trial.copyFrom(now);
            trial.addAct(caller, s, minute);
            if (isToldOnTrial(caller)) {
                bits |= 1 << s;
            }
        }
        return bits;
    }

    public int suits(int caller) {
        if (!now.hasCaller(caller)) {
            return NO_SUCH;
        }
        trial.copyFrom(now);
        int bits = 0;
        for (int s = 0; s < now.seats; s++) {
            trial.seat[caller] = s;
            if (isToldOnTrial(caller)) {
                bits |= 1 << s;
            }
        }
        return bits;
    }

    public int hour(int caller) {
        if (!now.hasCaller(caller)) {
            return NO_SUCH;
        }
        trial.copyFrom(now);
        int own = now.comes[caller];
        int found = NONE;
        for (int m = 0; m <= LAST_COMING; m++) {
            trial.comes[caller] = m;
            boolean nearer = found == NONE || Math.abs(m - own) < Math.abs(found - own);
            if (nearer && isToldOnTrial(caller)) {
                found = m;
            }
        }
        return found;
    }

    public int youth(int caller) {
        if (!now.hasCaller(caller)) {
            return NO_SUCH;
        }
        trial.copyFrom(now);
        for (int years = 0; years <= OLDEST; years++) {
            trial.age[caller] = years;
            if (isToldOnTrial(caller)) {
                return years;
            }
        }
        return NONE;
    }

    public int best() {
        if (!hasBench()) {
            return NO_SUCH;
        }
        planner.search(now, trial, probe);
        return planner.most;
    }

    public int plan(int caller) {
        if (!now.hasCaller(caller)) {
            return NO_SUCH;
        }
        planner.search(now, trial, probe);
        return planner.row[caller];
    }

    public int ways() {
        if (!hasBench()) {
            return NO_SUCH;
        }
        planner.search(now, trial, probe);
        return planner.ways;
    }

    public int every() {
        if (!hasBench()) {
            return NO_SUCH;
        }
        trial.copyFrom(now);
        int found = 1;
        int most = NONE;
        for (int every = 1; every <= LONGEST_EVERY; every++) {
            trial.every = every;
            int told = Integer.bitCount(toldOnTrial());
            if (told > most) {
                most = told;
                found = every;
            }
        }
        return found;
    }

    public int calls() {
        if (!hasBench()) {
            return NO_SUCH;
        }
        int best = every();
        trial.copyFrom(now);
        trial.every = best;
        return Integer.bitCount(toldOnTrial());
    }

    public int none() {
        if (!hasBench()) {
            return NO_SUCH;
        }
        trial.copyFrom(now);
        for (int every = 1; every <= LONGEST_EVERY; every++) {
            trial.every = every;
            probe.live(trial, 0L);
            if (probe.forgottenBits(trial) == 0) {
                return every;
            }
        }
        return NONE;
    }

    public int by(int law) {
        if (!hasBench() || law < 0 || law >= LAWS) {
            return NO_SUCH;
        }
        trial.copyFrom(now);
        trial.law = law;
        return toldOnTrial();
    }

    public int law() {
        if (!hasBench()) {
            return NO_SUCH;
        }
        trial.copyFrom(now);
        int found = 0;
        int most = NONE;
        for (int law = 0; law < LAWS; law++) {
            trial.law = law;
            int told = Integer.bitCount(toldOnTrial());
            if (told > most) {
                most = told;
                found = law;
            }
        }
        return found;
    }

    // ---- laws and seats by what was seen

    public int laws(int slot) {
        Row row = rowAt(slot);
        int refusal = refusalOfSights(row);
        if (refusal != 0 || row == null) {
            return refusal;
        }
        trial.copyFrom(now);
        int bits = 0;
        for (int law = 0; law < LAWS; law++) {
            trial.law = law;
            if (isAsSeen(row)) {
                bits |= 1 << law;
            }
        }
        return bits;
    }

    public int sat(int slot, int caller) {
        Row row = rowAt(slot);
        int refusal = now.hasCaller(caller) ? refusalOfSights(row) : NO_SUCH;
        if (refusal != 0 || row == null) {
            return refusal;
        }
        return seatsAsSeen(row, caller);
    }

    public int ask(int slot, int caller) {
        Row row = rowAt(slot);
        int refusal = now.hasCaller(caller) ? refusalOfSights(row) : NO_SUCH;
        if (refusal != 0 || row == null) {
            return refusal;
        }
        int left = seatsAsSeen(row, caller);
        int fewest = Integer.bitCount(left);
        int found = NONE;
        for (int m = 0; m < MINUTES; m++) {
            int worst = mostAlikeAt(left, m);
            if (worst < fewest) {
                fewest = worst;
                found = m;
            }
        }
        return found;
    }

    // ---- marks that lie over one another

    public int marks(int slot) {
        int refusal = pileUp(slot);
        if (refusal != 0) {
            return refusal;
        }
        return pile.sorted ? 1 : 0;
    }

    public int mark(int slot, int i) {
        int refusal = pileUp(slot);
        if (refusal != 0) {
            return refusal;
        }
        return pile.sorted && i >= 0 && i < MARKS ? pile.order[i] : NONE;
    }

    public int under(int slot, int mark) {
        int refusal = mark >= 0 && mark < MARKS ? pileUp(slot) : NO_SUCH;
        if (refusal != 0) {
            return refusal;
        }
        return pile.sorted ? pile.allBeneath(mark) : NONE;
    }

    // ---- two at rest, and swaps

    public int rests(int caller, int other) {
        if (!arePair(caller, other)) {
            return NO_SUCH;
        }
        trial.copyFrom(now);
        game.play(trial, probe, caller, other);
        return game.rests;
    }

    public int rest(int caller, int other) {
        if (!arePair(caller, other)) {
            return NO_SUCH;
        }
        trial.copyFrom(now);
        game.play(trial, probe, caller, other);
        return game.first;
    }

    public int swaps() {
        if (!hasBench()) {
            return NO_SUCH;
        }
        int toldNow = livedToday().day.toldBits(now);
        int pairs = 0;
        for (int c = 0; c < now.callers; c++) {
            for (int other = c + 1; other < now.callers; other++) {
                if (isMendedBySwap(toldNow, c, other)) {
                    pairs++;
                }
            }
        }
        return pairs;
    }

    public int swap() {
        if (!hasBench()) {
            return NO_SUCH;
        }
        int toldNow = livedToday().day.toldBits(now);
        for (int c = 0; c < now.callers; c++) {
            for (int other = c + 1; other < now.callers; other++) {
                if (isMendedBySwap(toldNow, c, other)) {
                    return 10 * c + other;
                }
            }
        }
        return NONE;
    }

    // ---- calls missed by chance

    public long chance(int caller, int k, int what) {
        if (!now.hasCaller(caller) || !isChance(k, what)) {
            return NO_SUCH;
        }
        chances.weigh(now);
        return chances.part(chances.gained(chances.going, caller, k), k, what);
    }

    public long luckily(int caller, int k, int what) {
        if (!now.hasCaller(caller) || !isChance(k, what)) {
            return NO_SUCH;
        }
        chances.weigh(now);
        return chances.part(chances.gained(chances.telling, caller, k), k, what);
    }

    public long mean(int k, int what) {
        if (!hasBench() || !isChance(k, what)) {
            return NO_SUCH;
        }
        chances.weigh(now);
        long sum = 0;
        for (int c = 0; c < now.callers; c++) {
            sum += chances.gained(chances.going, c, k);
        }
        return chances.part(sum, k, what);
    }

    // ---- acts

    public int move(int caller, int seat, int minute) {
        if (!now.hasCaller(caller) || !now.hasSeat(seat) || !isMinute(minute)) {
            return NO_SUCH;
        }
        if (now.acts >= ACTS) {
            return ACTS_FORBID;
        }
        int act = now.acts;
        now.addAct(caller, seat, minute);
        forgetAnswers();
        return (int) (livedToday().day.done >>> act & 1L);
    }

    public int undo() {
        if (!hasBench()) {
            return NO_SUCH;
        }
        if (now.acts <= 0) {
            return ACTS_FORBID;
        }
        now.acts--;
        forgetAnswers();
        return now.acts;
    }

    public int anew() {
        if (!hasBench()) {
            return NO_SUCH;
        }
        int acts = now.acts;
        now.acts = 0;
        forgetAnswers();
        return acts;
    }

    // ---- days drawn

    public int drawn(int seed, int what) {
        if (!hasBench() || !isSeed(seed) || what < 0 || what > 1) {
            return NO_SUCH;
        }
        long missed = drawMissed(seed);
        if (what == 1) {
            return Long.bitCount(missed);
        }
        probe.live(now, missed);
        return probe.toldBits(now);
    }

    public int luck(int seed, int n, int caller) {
        if (!now.hasCaller(caller) || !isSeed(seed) || n < 1 || n > MOST_DAYS) {
            return NO_SUCH;
        }
        int days = 0;
        for (int i = 0; i < n; i++) {
            probe.live(now, drawMissed((long) seed + i));
            if (probe.wentAt[caller] == NONE) {
                days++;
            }
        }
        return days;
    }

    // ---- wear, counts, images

    public int rate(int n) {
        if (!hasBench() || n < 0 || n > OLDEST) {
            return NO_SUCH;
        }
        if (now.acts > 0) {
            return ACTS_FORBID;
        }
        int was = now.wear;
        now.wear = n;
        forgetAnswers();
        return was;
    }

    public int count(int what) {
        switch (what) {
            case 0:
                return now.seats;
            case 1:
                return now.law;
            case 2:
                return now.wear;
            case 3:
                return now.every;
            case 4:
                return now.odds;
            case 5:
                return now.callers;
            case 6:
                return now.acts;
            case 7:
                return now.lines;
            case 8:
                return tape.size;
            case 9:
                return countRows();
            default:
                return NONE;
        }
    }

    public int image(int k) {
        if (k < 0 || k >= IMAGES) {
            return NO_SUCH;
        }
        Bench kept = images[k];
        if (kept == null) {
            kept = new Bench();
            images[k] = kept;
        }
        kept.copyFrom(now);
        return 0;
    }

    public int back(int k) {
        if (k < 0 || k >= IMAGES) {
            return NO_SUCH;
        }
        Bench kept = images[k];
        if (kept == null) {
            return NOTHING;
        }
        now.copyFrom(kept);
        forgetAnswers();
        return 0;
    }

    // ---- rows of numbers

    public int row(int slot, int width, int n) {
        Row row = rowAt(slot);
        if (row == null || width < 0 || width >= WIDTHS || n > ROW_NUMBERS) {
            return NO_SUCH;
        }
        if (n < 0) {
            return BELOW_ZERO;
        }
        row.start(width, n);
        return 0;
    }

    public int write(int slot, int i, long v) {
        Row row = rowAt(slot);
        if (row == null) {
            return NO_SUCH;
        }
        if (!row.isMade()) {
            return NOTHING;
        }
        if (i < 0 || i >= row.size) {
            return BEYOND;
        }
        row.put(i, v);
        return 0;
    }

    public int paste(int slot, int i, int to, int k, int n) {
        Row from = rowAt(slot);
        Row onto = rowAt(to);
        if (from == null || onto == null) {
            return NO_SUCH;
        }
        if (!from.isMade() || !onto.isMade()) {
            return NOTHING;
        }
        if (from.width != onto.width) {
            return UNLIKE;
        }
        if (!from.hasStretch(i, n) || !onto.hasStretch(k, n)) {
            return BEYOND;
        }
        onto.copyStretch(from, i, k, n);
        return 0;
    }

    // ---- what the calls above share

    private boolean hasBench() {
        return now.lines > 0;
    }

    private static boolean isMinute(int minute) {
        return minute >= 0 && minute <= LAST_MINUTE;
    }

    private static boolean isSeed(int seed) {
        return seed >= 0 && seed <= LAST_SEED;
    }

    private static boolean isChance(int k, int what) {
        return k >= 0 && k <= CHANCE_CALLS && what >= 0 && what <= 1;
    }

    private boolean arePair(int caller, int other) {
        return now.hasCaller(caller) && now.hasCaller(other) && caller != other;
    }

    /** Days lived and plans made are kept till the bench changes: many calls ask of the same one. */
    private void forgetAnswers() {
        today.known = false;
        planner.known = false;
        chances.known = false;
    }

    private Diary livedToday() {
        if (!today.known) {
            today.keep(now);
        }
        return today;
    }

    /** The oldest of those there by sign 1, the youngest by -1. */
    private int foremost(Diary day, int minute, int sign) {
        int found = NONE;
        int most = 0;
        for (int c = 0; c < now.callers; c++) {
            int signed = sign * day.ageAt(c, minute);
            if (day.isThere(c, minute) && (found == NONE || signed > most)) {
                most = signed;
                found = c;
            }
        }
        return found;
    }

    private int wearOf(Diary day, int seat) {
        int minutes = 0;
        for (int c = 0; c < now.callers; c++) {
            minutes += day.minutesOn(c, seat);
        }
        return minutes;
    }

    private boolean isRipeAt(Diary day, int caller, int minute) {
        return day.isThere(caller, minute) && now.isToldAt(caller, day.ageAt(caller, minute));
    }

    private int toldOnTrial() {
        probe.live(trial, 0L);
        return probe.toldBits(trial);
    }

    private boolean isToldOnTrial(int caller) {
        probe.live(trial, 0L);
        return probe.endOf(trial, caller) == Day.TOLD_OFF;
    }

    private Row rowAt(int slot) {
        return slot >= 0 && slot < SLOTS ? rows[slot] : null;
    }

    private int countRows() {
        int made = 0;
        for (int slot = 0; slot < SLOTS; slot++) {
            Row row = rows[slot];
            if (row != null && row.isMade()) {
                made++;
            }
        }
        return made;
    }

    private int refusalOfSights(Row row) {
        if (row == null || !hasBench()) {
            return NO_SUCH;
        }
        if (!row.isMade()) {
            return NOTHING;
        }
        if (row.size % 3 != 0) {
            return NO_SUCH;
        }
        for (int i = 0; i + 2 < row.size; i += 3) {
            if (!row.isWithin(i, 0, now.callers - 1)
                    || !row.isWithin(i + 1, 0, LAST_MINUTE)
                    || !row.isWithin(i + 2, NONE, OLDEST)) {
                return NO_SUCH;
            }
        }
        return 0;
    }

    /** The other day is then the trial's, for who wants to see more of it. */
    private boolean isAsSeen(Row row) {
        otherDay.keep(trial);
        for (int i = 0; i + 2 < row.size; i += 3) {
            int caller = row.intAt(i);
            int minute = row.intAt(i + 1);
            if (otherDay.ageAt(caller, minute) != row.intAt(i + 2)) {
                return false;
            }
        }
        return true;
    }

    private int seatsAsSeen(Row row, int caller) {
        trial.copyFrom(now);
        int bits = 0;
        for (int s = 0; s < now.seats; s++) {
            trial.seat[caller] = s;
            if (isAsSeen(row)) {
                bits |= 1 << s;
            }
            for (int m = 0; m < MINUTES; m++) {
                seen[s * MINUTES + m] = otherDay.ageAt(caller, m);
            }
        }
        return bits;
    }

    private int mostAlikeAt(int seats, int minute) {
        int most = 0;
        for (int s = 0; s < SEATS; s++) {
            int alike = 0;
            for (int t = 0; t < SEATS; t++) {
                boolean both = (seats >>> s & seats >>> t & 1) != 0;
                if (both && seen[s * MINUTES + minute] == seen[t * MINUTES + minute]) {
                    alike++;
                }
            }
            most = Math.max(most, alike);
        }
        return most;
    }

    private int pileUp(int slot) {
        Row row = rowAt(slot);
        if (row == null || !hasBench()) {
            return NO_SUCH;
        }
        if (!row.isMade()) {
            return NOTHING;
        }
        if (row.size % 2 != 0) {
            return NO_SUCH;
        }
        for (int i = 0; i < row.size; i++) {
            if (!row.isWithin(i, 0, MARKS - 1)) {
                return NO_SUCH;
            }
        }
        pile.sort(row);
        return 0;
    }

    private boolean isMendedBySwap(int toldNow, int caller, int other) {
        int both = 1 << caller | 1 << other;
        if ((toldNow & both) == both) {
            return false;
        }
        trial.copyFrom(now);
        trial.seat[caller] = now.seat[other];
        trial.seat[other] = now.seat[caller];
        return (toldOnTrial() & both) == both;
    }

    private long drawMissed(long seed) {
        long x = seed;
        long missed = 0;
        int calls = now.callsTill(LAST_MINUTE);
        for (int i = 0; i < calls; i++) {
            x = (1103515245L * x + 12345L) & 0x7fffffffL;
            if (x / 65536L % 10L < now.odds) {
                missed |= 1L << i;
            }
        }
        return missed;
    }

    // ---- the parts

    /** Bytes that have come and not been read yet, and the fault of their latest reading. */
    private static final class Tape {
        private static final int END = 0;
        private static final int WORD = 1;
        private static final int NUMBER = 2;
        private static final int SIGN = 3;
        private static final int STRAY = 4;

        private static final int MISPLACED = 1;
        private static final int OUT_OF_BOUNDS = 2;
        private static final int TOO_MANY = 3;

        /** Above every bound, so a longer number can stop there and not overflow. */
        private static final int HUGE = 1000;

        private final int[] bytes = new int[TAPE_BYTES];
        int size;
        int fault = 0;
        int place = NONE;
        private int kind;
        private int start;
        private int stop;

        boolean hasRoom(int n) {
            return size + n <= TAPE_BYTES;
        }

        void put(int number) {
            for (int shift = 24; shift >= 0 && size < TAPE_BYTES; shift -= 8) {
                bytes[size] = number >>> shift & 255;
                size++;
            }
        }

        boolean read(Bench into) {
            fault = 0;
            place = NONE;
            stop = 0;
            into.clear();
            advance();
            for (int i = 0; i < TAPE_BYTES && kind != END && fault == 0; i++) {
                if (into.lines == 0) {
                    readFirst(into);
                } else if (isWord("seat")) {
                    readSeat(into);
                } else if (isWord("caller")) {
                    readCaller(into);
                } else {
                    refuse(MISPLACED);
                }
                takeSign();
                into.lines++;
            }
            return fault == 0;
        }

        private void readFirst(Bench into) {
            takeWord("bench");
            into.law = takeAfter("law", 0, LAWS - 1);
            into.wear = takeAfter("wear", 0, OLDEST);
            into.every = takeAfter("every", 1, LONGEST_EVERY);
            into.odds = takeAfter("odds", 0, 10);
        }

        private void readSeat(Bench into) {
            int s = into.seats;
            if (s >= SEATS) {
                refuse(TOO_MANY);
                return;
            }
            takeWord("seat");
            if (isWord("takes")) {
                into.gives[s] = -takeAfter("takes", 0, MOST_GIVEN);
            } else {
                into.gives[s] = takeAfter("gives", 0, MOST_GIVEN);
            }
            into.seats++;
        }

        private void readCaller(Bench into) {
            int c = into.callers;
            if (c >= CALLERS) {
                refuse(TOO_MANY);
                return;
            }
            takeWord("caller");
            into.age[c] = takeAfter("age", 0, OLDEST);
            into.comes[c] = takeAfter("comes", 0, LAST_COMING);
            into.seat[c] = takeAfter("seat", 0, into.seats - 1);
            into.least[c] = takeAfter("told", 0, OLDEST);
            into.most[c] = takeAfter("to", into.least[c], OLDEST);
            into.callers++;
        }

        /** Only the first fault counts: nothing is taken any more behind it. */
        private void refuse(int what) {
            if (fault == 0) {
                fault = what;
                place = start;
            }
        }

        private void takeWord(String word) {
            if (fault != 0) {
                return;
            }
            if (isWord(word)) {
                advance();
            } else {
                refuse(MISPLACED);
            }
        }

        private void takeSign() {
            if (fault != 0) {
                return;
            }
            if (kind == SIGN) {
                advance();
            } else {
                refuse(MISPLACED);
            }
        }

        private int takeAfter(String word, int low, int high) {
            takeWord(word);
            if (fault != 0) {
                return 0;
            }
            if (kind != NUMBER) {
                refuse(MISPLACED);
                return 0;
            }
            int value = valueHere();
            if (value < low || value > high) {
                refuse(OUT_OF_BOUNDS);
                return 0;
            }
            advance();
            return value;
        }

        private boolean isWord(String word) {
            if (kind != WORD || stop - start != word.length()) {
                return false;
            }
            for (int i = 0; i < word.length(); i++) {
                if (bytes[start + i] != word.charAt(i)) {
                    return false;
                }
            }
            return true;
        }

        private int valueHere() {
            int value = 0;
            for (int at = start; at < stop; at++) {
                value = Math.min(HUGE, value * 10 + bytes[at] - '0');
            }
            return value;
        }

        private void advance() {
            int at = stop;
            while (at < size && isBlank(bytes[at])) {
                at++;
            }
            start = at;
            kind = END;
            if (at < size) {
                kind = kindOf(bytes[at]);
                at++;
            }
            while (at < size && growsOn() && kindOf(bytes[at]) == kind) {
                at++;
            }
            stop = at;
        }

        private boolean growsOn() {
            return kind == WORD || kind == NUMBER;
        }

        private static boolean isBlank(int b) {
            return b == 32 || b == 10;
        }

        private static int kindOf(int b) {
            if (b >= 'a' && b <= 'z') {
                return WORD;
            }
            if (b >= '0' && b <= '9') {
                return NUMBER;
            }
            return b == ';' ? SIGN : STRAY;
        }
    }

    /** A bench as told, and the moves done on it; no lines: there is none. */
    private static final class Bench {
        int lines;
        int law;
        int wear;
        int every;
        int odds;
        int seats;
        int callers;
        int acts;
        final int[] gives = new int[SEATS];
        final int[] age = new int[CALLERS];
        final int[] comes = new int[CALLERS];
        final int[] seat = new int[CALLERS];
        final int[] least = new int[CALLERS];
        final int[] most = new int[CALLERS];
        /** One more than may be done, for a move that is only tried. */
        final int[] actCaller = new int[ACTS + 1];
        final int[] actSeat = new int[ACTS + 1];
        final int[] actMinute = new int[ACTS + 1];

        void clear() {
            lines = 0;
            law = 0;
            wear = 0;
            every = 0;
            odds = 0;
            seats = 0;
            callers = 0;
            acts = 0;
        }

        void copyFrom(Bench other) {
            lines = other.lines;
            law = other.law;
            wear = other.wear;
            every = other.every;
            odds = other.odds;
            seats = other.seats;
            callers = other.callers;
            acts = other.acts;
            for (int s = 0; s < SEATS; s++) {
                gives[s] = other.gives[s];
            }
            for (int c = 0; c < CALLERS; c++) {
                age[c] = other.age[c];
                comes[c] = other.comes[c];
                seat[c] = other.seat[c];
                least[c] = other.least[c];
                most[c] = other.most[c];
            }
            for (int i = 0; i < acts && i <= ACTS; i++) {
                actCaller[i] = other.actCaller[i];
                actSeat[i] = other.actSeat[i];
                actMinute[i] = other.actMinute[i];
            }
        }

        void addAct(int caller, int to, int minute) {
            if (acts > ACTS) {
                return;
            }
            actCaller[acts] = caller;
            actSeat[acts] = to;
            actMinute[acts] = minute;
            acts++;
        }

        boolean hasSeat(int s) {
            return s >= 0 && s < seats;
        }

        boolean hasCaller(int c) {
            return c >= 0 && c < callers;
        }

        boolean isToldAt(int c, int years) {
            return years >= least[c] && years <= most[c];
        }

        int callsTill(int minute) {
            return every > 0 ? minute / every : 0;
        }
    }

    /** A day on a bench as it stands at one minute, and who has gone in till then. */
    private static final class Day {
        static final int TOLD_OFF = 0;
        static final int TOO_YOUNG = 1;
        static final int TOO_OLD = 2;
        static final int FORGOTTEN = 3;

        /** His seat, or STANDS, AWAY, GONE: those there are the ones from STANDS on. */
        final int[] place = new int[CALLERS];
        final int[] years = new int[CALLERS];
        final int[] seatBefore = new int[CALLERS];
        final int[] minutesKept = new int[CALLERS];
        final int[] wentAt = new int[CALLERS];
        final int[] wentAge = new int[CALLERS];
        final int[] sitter = new int[SEATS];
        int gone;
        /** The minutes that have moves, as bits: most have none, and need no look at the acts. */
        long busy;
        /** The acts that were done, as bits. */
        long done;

        void dawn(Bench b) {
            for (int c = 0; c < CALLERS; c++) {
                place[c] = AWAY;
                years[c] = b.age[c];
                seatBefore[c] = NONE;
                minutesKept[c] = 0;
                wentAt[c] = NONE;
                wentAge[c] = 0;
            }
            for (int s = 0; s < SEATS; s++) {
                sitter[s] = NONE;
            }
            gone = 0;
            done = 0L;
            busy = 0L;
            for (int i = 0; i < b.acts; i++) {
                busy |= 1L << b.actMinute[i];
            }
        }

        void copyFrom(Day other) {
            for (int c = 0; c < CALLERS; c++) {
                place[c] = other.place[c];
                years[c] = other.years[c];
                seatBefore[c] = other.seatBefore[c];
                minutesKept[c] = other.minutesKept[c];
                wentAt[c] = other.wentAt[c];
                wentAge[c] = other.wentAge[c];
            }
            for (int s = 0; s < SEATS; s++) {
                sitter[s] = other.sitter[s];
            }
            gone = other.gone;
            busy = other.busy;
            done = other.done;
        }

        void live(Bench b, long missed) {
            dawn(b);
            for (int m = 0; m <= LAST_MINUTE && gone < b.callers; m++) {
                settle(b, m);
                finish(b, m, missed);
            }
        }

        /** All that comes ahead of a minute's call. */
        void settle(Bench b, int minute) {
            if ((busy >>> minute & 1L) != 0) {
                moveAll(b, minute);
            }
            for (int c = 0; c < b.callers; c++) {
                if (place[c] == STANDS) {
                    sitDown(b, c);
                }
            }
            for (int c = 0; c < b.callers; c++) {
                if (b.comes[c] == minute) {
                    sitDown(b, c);
                }
            }
        }

        /** A minute's call, but for one that is missed, and what comes behind it. */
        void finish(Bench b, int minute, long missed) {
            int calls = b.callsTill(minute);
            boolean isCall = calls > 0 && calls * b.every == minute;
            if (isCall && (missed >>> (calls - 1) & 1L) == 0) {
                admit(firstThere(b), minute);
            }
            growAll(b);
        }

        private void moveAll(Bench b, int minute) {
            for (int i = 0; i < b.acts; i++) {
                int c = b.actCaller[i];
                int to = b.actSeat[i];
                if (b.actMinute[i] == minute && place[c] >= STANDS && sitter[to] == NONE) {
                    leaveSeat(c);
                    sitter[to] = c;
                    place[c] = to;
                    done |= 1L << i;
                }
            }
        }

        private void leaveSeat(int c) {
            if (place[c] >= 0) {
                sitter[place[c]] = NONE;
            }
        }

        private void sitDown(Bench b, int c) {
            place[c] = STANDS;
            int s = b.seat[c];
            for (int i = 0; i < b.seats; i++) {
                if (sitter[s] == NONE) {
                    sitter[s] = c;
                    place[c] = s;
                    return;
                }
                s = s + 1 < b.seats ? s + 1 : 0;
            }
        }

        int firstThere(Bench b) {
            int found = NONE;
            for (int c = 0; c < b.callers; c++) {
                if (place[c] >= STANDS && (found == NONE || b.comes[c] < b.comes[found])) {
                    found = c;
                }
            }
            return found;
        }

        void admit(int c, int minute) {
            if (c == NONE) {
                return;
            }
            leaveSeat(c);
            place[c] = GONE;
            wentAt[c] = minute;
            wentAge[c] = years[c];
            gone++;
        }

        void growAll(Bench b) {
            for (int c = 0; c < b.callers; c++) {
                int s = place[c];
                if (s >= 0) {
                    minutesKept[c] = seatBefore[c] == s ? minutesKept[c] + 1 : 0;
                    seatBefore[c] = s;
                    years[c] = Math.max(0, Math.min(OLDEST, ageBehind(b, c, s)));
                }
            }
        }

        private int ageBehind(Bench b, int c, int s) {
            int age = years[c];
            int given = b.gives[s];
            int step = Math.abs(given);
            switch (b.law) {
                case 1:
                    return age < b.wear ? Math.min(b.wear, age + step) : Math.max(b.wear, age - step);
                case 2:
                    return minutesKept[c] % 2 == 0 ? age + given : age;
                case 3:
                    return age + given + neighbours(b, s);
                default:
                    return age + given;
            }
        }

        private int neighbours(Bench b, int s) {
            int left = s > 0 && sitter[s - 1] != NONE ? 1 : 0;
            int right = s + 1 < b.seats && sitter[s + 1] != NONE ? 1 : 0;
            return left + right;
        }

        int endOf(Bench b, int c) {
            if (wentAt[c] == NONE) {
                return FORGOTTEN;
            }
            if (wentAge[c] < b.least[c]) {
                return TOO_YOUNG;
            }
            return wentAge[c] > b.most[c] ? TOO_OLD : TOLD_OFF;
        }

        int toldBits(Bench b) {
            int bits = 0;
            for (int c = 0; c < b.callers; c++) {
                if (endOf(b, c) == TOLD_OFF) {
                    bits |= 1 << c;
                }
            }
            return bits;
        }

        int forgottenBits(Bench b) {
            int bits = 0;
            for (int c = 0; c < b.callers; c++) {
                if (wentAt[c] == NONE) {
                    bits |= 1 << c;
                }
            }
            return bits;
        }
    }

    /** A whole day, minute by minute: ages and seats as they are at each call. */
    private static final class Diary {
        final Day day = new Day();
        boolean known;
        private final int[] ages = new int[MINUTES * CALLERS];
        private final int[] seats = new int[MINUTES * CALLERS];

        void keep(Bench b) {
            Arrays.fill(ages, NONE);
            Arrays.fill(seats, NONE);
            day.dawn(b);
            for (int m = 0; m <= LAST_MINUTE && day.gone < b.callers; m++) {
                day.settle(b, m);
                note(b, m);
                day.finish(b, m, 0L);
            }
            known = true;
        }

        private void note(Bench b, int minute) {
            for (int c = 0; c < b.callers; c++) {
                if (day.place[c] >= STANDS) {
                    ages[minute * CALLERS + c] = day.years[c];
                    seats[minute * CALLERS + c] = day.place[c] >= 0 ? day.place[c] : NONE;
                }
            }
        }

        int ageAt(int c, int minute) {
            return ages[minute * CALLERS + c];
        }

        int seatAt(int c, int minute) {
            return seats[minute * CALLERS + c];
        }

        boolean isThere(int c, int minute) {
            return ageAt(c, minute) != NONE;
        }

        boolean areOfOneAge(int c, int other, int minute) {
            return isThere(c, minute) && ageAt(c, minute) == ageAt(other, minute);
        }

        int minutesOn(int c, int s) {
            int minutes = 0;
            for (int m = 0; m < MINUTES; m++) {
                if (seatAt(c, m) == s) {
                    minutes++;
                }
            }
            return minutes;
        }
    }

    /**
     * Seats told so that most are told off. What is told matters only as far as it says where one
     * sits down as he comes (who stands later finds one free seat at most), so only the rows are
     * lived through in which each gets the seat told; each of these speaks for all that come to it.
     */
    private static final class Planner {
        boolean known;
        int most;
        int ways;
        final int[] row = new int[CALLERS];
        private final int[] order = new int[CALLERS];
        private final int[] leastTold = new int[CALLERS];
        private int rowsAlike;

        void search(Bench now, Bench trial, Day day) {
            if (known) {
                return;
            }
            trial.copyFrom(now);
            most = NONE;
            ways = 0;
            sortByComing(now);
            for (int c = 0; c < CALLERS; c++) {
                trial.seat[c] = 0;
            }
            boolean more = true;
            for (int i = 0; i < MOST_ROWS && more; i++) {
                int unlike = liveAsTold(trial, day);
                if (unlike == NONE) {
                    weighRow(trial, Integer.bitCount(day.toldBits(trial)));
                }
                more = turn(trial, unlike == NONE ? trial.callers - 1 : unlike);
            }
            known = true;
        }

        private void sortByComing(Bench b) {
            for (int c = 0; c < b.callers; c++) {
                int at = 0;
                for (int other = 0; other < b.callers; other++) {
                    boolean same = b.comes[other] == b.comes[c];
                    if (b.comes[other] < b.comes[c] || same && other < c) {
                        at++;
                    }
                }
                order[at] = c;
            }
        }

        /** The first in order who does not get the seat told, where the day is left; or NONE. */
        private int liveAsTold(Bench b, Day day) {
            day.dawn(b);
            rowsAlike = 1;
            int come = 0;
            for (int m = 0; m <= LAST_MINUTE && day.gone < b.callers; m++) {
                day.settle(b, m);
                for (; come < b.callers && b.comes[order[come]] == m; come++) {
                    if (!getsTold(b, day, order[come])) {
                        return come;
                    }
                }
                day.finish(b, m, 0L);
            }
            return NONE;
        }

        private boolean getsTold(Bench b, Day day, int c) {
            int s = day.place[c];
            leastTold[c] = Math.max(s, 0);
            if (s < 0) {
                rowsAlike *= b.seats;
                return b.seat[c] == 0;
            }
            if (b.seat[c] != s) {
                return false;
            }
            int alike = 1;
            int t = s;
            for (int i = 1; i < b.seats; i++) {
                t = t > 0 ? t - 1 : b.seats - 1;
                if (!wasTaken(b, day, t, c)) {
                    break;
                }
                alike++;
                leastTold[c] = Math.min(leastTold[c], t);
            }
            rowsAlike *= alike;
            return true;
        }

        private static boolean wasTaken(Bench b, Day day, int s, int c) {
            int other = day.sitter[s];
            return other != NONE && !(b.comes[other] == b.comes[c] && other > c);
        }

        private void weighRow(Bench b, int told) {
            if (told > most) {
                most = told;
                ways = 0;
                keepRow(b);
            } else if (told == most && isLesser(b)) {
                keepRow(b);
            }
            if (told == most) {
                ways += rowsAlike;
            }
        }

        private void keepRow(Bench b) {
            for (int c = 0; c < b.callers; c++) {
                row[c] = leastTold[c];
            }
        }

        private boolean isLesser(Bench b) {
            for (int c = 0; c < b.callers; c++) {
                if (leastTold[c] != row[c]) {
                    return leastTold[c] < row[c];
                }
            }
            return false;
        }

        /** The next row, those who come behind the one at a place beginning again. */
        private boolean turn(Bench b, int place) {
            for (int i = b.callers - 1; i > place; i--) {
                b.seat[order[i]] = 0;
            }
            for (int i = place; i >= 0; i--) {
                int c = order[i];
                b.seat[c]++;
                if (b.seat[c] < b.seats) {
                    return true;
                }
                b.seat[c] = 0;
            }
            return false;
        }
    }

    /** By call and caller, the chance that he goes in (is told off) at it: so many of ten to the calls. */
    private static final class Chances {
        boolean known;
        final long[] going = new long[CHANCE_CALLS * CALLERS];
        final long[] telling = new long[CHANCE_CALLS * CALLERS];
        private final Day[] days = new Day[CHANCE_CALLS + 1];
        private int calls;

        Chances() {
            for (int i = 0; i <= CHANCE_CALLS; i++) {
                days[i] = new Day();
            }
        }

        void weigh(Bench b) {
            if (known) {
                return;
            }
            Arrays.fill(going, 0L);
            Arrays.fill(telling, 0L);
            calls = Math.min(CHANCE_CALLS, b.callsTill(LAST_MINUTE));
            Day first = days[0];
            if (first != null) {
                first.dawn(b);
                first.settle(b, 0);
                passToCall(first, b, 0);
                branch(this, b, 0, 1L);
            }
            known = true;
        }

        /** From behind a minute's call up to the next one. */
        private static void passToCall(Day day, Bench b, int minute) {
            for (int m = minute + 1; m <= minute + b.every && m <= LAST_MINUTE; m++) {
                day.growAll(b);
                day.settle(b, m);
            }
        }

        private static void branch(Chances all, Bench b, int call, long weight) {
            if (call < 0 || call >= all.calls || weight == 0) {
                return;
            }
            Day here = all.days[call];
            Day then = all.days[call + 1];
            if (here == null || then == null) {
                return;
            }
            int minute = (call + 1) * b.every;
            int who = here.firstThere(b);
            long heard = weight * (10 - b.odds);
            then.copyFrom(here);
            if (who == NONE) {
                passToCall(then, b, minute);
                branch(all, b, call + 1, weight * 10);
                return;
            }
            then.admit(who, minute);
            all.note(b, call, who, then.wentAge[who], heard);
            passToCall(then, b, minute);
            branch(all, b, call + 1, heard);
            then.copyFrom(here);
            passToCall(then, b, minute);
            branch(all, b, call + 1, weight * b.odds);
        }

        private void note(Bench b, int call, int c, int years, long weight) {
            going[call * CALLERS + c] += weight;
            if (b.isToldAt(c, years)) {
                telling[call * CALLERS + c] += weight;
            }
        }

        /** Of ten to the first k calls. */
        long gained(long[] byCall, int c, int k) {
            long sum = 0;
            for (int call = 0; call < calls && call < k; call++) {
                sum = sum * 10 + byCall[call * CALLERS + c];
            }
            return sum;
        }

        long part(long above, int k, int what) {
            long below = 1;
            for (int call = 0; call < calls && call < k; call++) {
                below *= 10;
            }
            long divisor = commonDivisor(above, below);
            return divisor == 0 ? 0 : (what == 0 ? above : below) / divisor;
        }

        private static long commonDivisor(long a, long b) {
            long greater = a;
            long lesser = b;
            for (int i = 0; i < 200 && lesser != 0; i++) {
                long left = greater % lesser;
                greater = lesser;
                lesser = left;
            }
            return greater;
        }
    }

    /** Two who choose the seats told as theirs, all else as it is. */
    private static final class Game {
        int rests;
        int first;
        private final int[] toldBits = new int[SEATS * SEATS];

        void play(Bench b, Day day, int caller, int other) {
            for (int s = 0; s < b.seats; s++) {
                for (int t = 0; t < b.seats; t++) {
                    b.seat[caller] = s;
                    b.seat[other] = t;
                    day.live(b, 0L);
                    toldBits[s * SEATS + t] = day.toldBits(b);
                }
            }
            rests = 0;
            first = NONE;
            for (int s = 0; s < b.seats; s++) {
                for (int t = 0; t < b.seats; t++) {
                    if (isAtRest(b, 1 << caller, 1 << other, s, t)) {
                        first = rests == 0 ? 10 * s + t : first;
                        rests++;
                    }
                }
            }
        }

        private boolean isAtRest(Bench b, int callerBit, int otherBit, int s, int t) {
            int here = toldBits[s * SEATS + t];
            for (int u = 0; u < b.seats; u++) {
                int callerGains = toldBits[u * SEATS + t] & ~here & callerBit;
                int otherGains = toldBits[s * SEATS + u] & ~here & otherBit;
                if (callerGains != 0 || otherGains != 0) {
                    return false;
                }
            }
            return true;
        }
    }

    /** Marks cut over one another. */
    private static final class Pile {
        boolean sorted;
        final int[] order = new int[MARKS];
        private final int[] beneath = new int[MARKS];

        void sort(Row row) {
            Arrays.fill(beneath, 0);
            for (int i = 0; i + 1 < row.size; i += 2) {
                beneath[row.intAt(i)] |= 1 << row.intAt(i + 1);
            }
            sorted = true;
            int cut = 0;
            for (int i = 0; i < MARKS && sorted; i++) {
                int mark = leastToCut(cut);
                sorted = mark != NONE;
                if (sorted) {
                    order[i] = mark;
                    cut |= 1 << mark;
                }
            }
        }

        private int leastToCut(int cut) {
            for (int mark = 0; mark < MARKS; mark++) {
                if ((cut >>> mark & 1) == 0 && (beneath[mark] & ~cut) == 0) {
                    return mark;
                }
            }
            return NONE;
        }

        int allBeneath(int top) {
            int bits = beneath[top];
            for (int round = 0; round < MARKS; round++) {
                for (int mark = 0; mark < MARKS; mark++) {
                    if ((bits >>> mark & 1) != 0) {
                        bits |= beneath[mark];
                    }
                }
            }
            return bits;
        }
    }

    /** A slot's numbers, cut to their width; no width: it has nothing. */
    private static final class Row {
        int width = NONE;
        int size;
        private final long[] numbers = new long[ROW_NUMBERS];

        boolean isMade() {
            return width != NONE;
        }

        void start(int newWidth, int n) {
            width = newWidth;
            size = n;
            Arrays.fill(numbers, 0L);
        }

        void put(int i, long v) {
            switch (width) {
                case 0:
                    numbers[i] = (byte) v;
                    break;
                case 1:
                    numbers[i] = (short) v;
                    break;
                case 2:
                    numbers[i] = (int) v;
                    break;
                default:
                    numbers[i] = v;
                    break;
            }
        }

        boolean isWithin(int i, int low, int high) {
            return numbers[i] >= low && numbers[i] <= high;
        }

        /** For a number that is known to lie within an int's bounds. */
        int intAt(int i) {
            return (int) numbers[i];
        }

        boolean hasStretch(int i, int n) {
            return i >= 0 && n >= 0 && i <= size && n <= size - i;
        }

        /** From the far end where the stretches may overlap so, as a row may be pasted on itself. */
        void copyStretch(Row from, int i, int k, int n) {
            if (k <= i) {
                for (int j = 0; j < n; j++) {
                    numbers[k + j] = from.numbers[i + j];
                }
            } else {
                for (int j = n - 1; j >= 0; j--) {
                    numbers[k + j] = from.numbers[i + j];
                }
            }
        }
    }
}
