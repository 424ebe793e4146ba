import java.util.ArrayList;
import java.util.Arrays;
import java.util.List;
import java.util.Random;

/** Benches by chance (of seeds that stay), each call's answer against the plain telling of Oracle. */
public final class OracleTest {
    private static final Due DUE = new Due("OracleTest");
    private static final int BENCHES = 400;

    private final Random random;
    private final Oracle o;
    private final WearingBench x;
    private final int n;
    private final int seats;
    private Oracle.Shown day;
    private String where;

    private OracleTest(int seed, WearingBench told) {
        x = told;
        random = new Random(seed);
        o = Oracle.random(random);
        n = o.callers.length;
        seats = o.gives.length;
        String text = o.text(random);
        where = "seed " + seed + " of " + text + " ";
        DUE.is(where + "bench", Tell.bench(x, text), 1 + seats + n);
    }

    public static void main(String[] args) {
        WearingBench told = new WearingBench();
        for (int seed = 0; seed < BENCHES; seed++) {
            // one object for several benches, so that what is left of the ones before would show
            told = seed % 4 == 0 ? new WearingBench() : told;
            OracleTest t = new OracleTest(seed, told);
            t.day = t.o.day();
            t.asks(seed);
            t.moves();
            t.day = t.o.day();
            t.asks(seed);
        }
        DUE.end();
    }

    private void is(String call, long got, long want) {
        DUE.is(got == want ? call : where + call, got, want);
    }

    private void asks(int seed) {
        byMinute();
        byCaller();
        bySeat();
        wholeDay();
        wouldBe();
        plans(seed);
        seen();
        games();
        chances(seed);
        draws();
    }

    private void moves() {
        int acts = random.nextInt(41);
        for (int i = 0; i < acts && n > 0; i++) {
            int[] act = {random.nextInt(n), random.nextInt(seats), random.nextInt(random.nextBoolean() ? 61 : 20)};
            o.acts.add(act);
            where += "move" + Arrays.toString(act) + " ";
            is("move", x.move(act[0], act[1], act[2]), o.day().did[i] ? 1 : 0);
        }
        int taken = n > 0 ? random.nextInt(acts + 1) / 4 : 0;
        for (int i = 0; i < taken; i++) {
            o.acts.remove(o.acts.size() - 1);
            where += "undo ";
            is("undo", x.undo(), o.acts.size());
        }
    }

    private void byMinute() {
        for (int m = 0; m <= 60; m++) {
            int stands = 0;
            int free = (1 << seats) - 1;
            int goes = -1;
            int youngest = -1;
            int oldest = -1;
            int next = -1;
            int years = 0;
            int twins = 0;
            for (int c = 0; c < n; c++) {
                int age = day.age[m][c];
                int seat = day.seat[m][c];
                is("age", x.age(c, m), age);
                is("sits", x.sits(c, m), seat);
                stands |= age >= 0 && seat < 0 ? 1 << c : 0;
                free &= seat >= 0 ? ~(1 << seat) : -1;
                goes = day.called[c] == m ? c : goes;
                if (age >= 0) {
                    youngest = youngest < 0 || age < day.age[m][youngest] ? c : youngest;
                    oldest = oldest < 0 || age > day.age[m][oldest] ? c : oldest;
                    next = next < 0 || o.callers[c][1] < o.callers[next][1] ? c : next;
                    years += age;
                }
                int beside = 0;
                for (int d = 0; d < n; d++) {
                    beside |= seat >= 0 && day.seat[m][d] >= 0 && Math.abs(seat - day.seat[m][d]) == 1 ? 1 << d : 0;
                    twins += d < c && age >= 0 && age == day.age[m][d] ? 1 : 0;
                }
                is("beside", x.beside(c, m), beside);
            }
            is("stands", x.stands(m), stands);
            is("free", x.free(m), free);
            is("goes", x.goes(m), goes);
            is("youngest", x.youngest(m), youngest);
            is("oldest", x.oldest(m), oldest);
            is("next", x.next(m), next);
            is("years", x.years(m), years);
            is("twins", x.twins(m), twins);
        }
    }

    private void byCaller() {
        for (int c = 0; c < n; c++) {
            int end = o.end(day, c);
            int called = day.called[c];
            is("called", x.called(c), called);
            is("ends", x.ends(c), end);
            is("waits", x.waits(c), (called < 0 ? 60 : called) - o.callers[c][1]);
            int ripe = -1;
            int window = 0;
            for (int m = 60; m >= 0; m--) {
                if (day.age[m][c] >= o.callers[c][3] && day.age[m][c] <= o.callers[c][4]) {
                    ripe = m;
                    window++;
                }
            }
            is("ripe", x.ripe(c), ripe);
            is("window", x.window(c), window);
            int misses = end == 1 ? o.callers[c][3] - day.calledAge[c] : end == 2 ? day.calledAge[c] - o.callers[c][4] : 0;
            is("misses", x.misses(c), end == 3 ? -1 : misses);
            is("grown", x.grown(c), end == 3 ? 0 : day.calledAge[c] - o.callers[c][0]);
            for (int d = 0; d < n; d++) {
                int meets = -1;
                for (int m = 60; m >= 0; m--) {
                    meets = day.age[m][c] >= 0 && day.age[m][c] == day.age[m][d] ? m : meets;
                }
                is("meets", x.meets(c, d), meets);
            }
        }
    }

    private void bySeat() {
        int deepest = -1;
        int most = 0;
        for (int s = 0; s < seats; s++) {
            int dip = 0;
            int opens = -1;
            int[] worn = new int[n];
            for (int m = 60; m >= 0; m--) {
                for (int c = 0; c < n; c++) {
                    if (day.seat[m][c] == s) {
                        dip++;
                        worn[c]++;
                        opens = c;
                    }
                }
            }
            for (int c = 0; c < n; c++) {
                is("worn", x.worn(c, s), worn[c]);
            }
            is("dip", x.dip(s), dip);
            is("opens", x.opens(s), opens);
            if (dip > most) {
                most = dip;
                deepest = s;
            }
        }
        is("deepest", x.deepest(), deepest);
    }

    private void wholeDay() {
        int forgotten = 0;
        int gun = -1;
        int last = -1;
        int crowd = 0;
        for (int m = 60; m >= 0; m--) {
            int there = 0;
            for (int c = 0; c < n; c++) {
                there += day.age[m][c] >= 0 ? 1 : 0;
                if (day.called[c] == m) {
                    gun = o.end(day, c) == 1 ? m : gun;
                    last = Math.max(last, m);
                }
            }
            crowd = Math.max(crowd, there);
        }
        for (int c = 0; c < n; c++) {
            forgotten |= o.end(day, c) == 3 ? 1 << c : 0;
        }
        is("told", x.told(), o.told(day));
        is("forgotten", x.forgotten(), forgotten);
        is("gun", x.gun(), gun);
        is("last", x.last(), last);
        is("crowd", x.crowd(), crowd);
    }

    private void wouldBe() {
        for (int c = 0; c < n; c++) {
            Oracle p = o.copy();
            p.absent = c;
            is("without", x.without(c), p.told());
            is("helps", x.helps(c), p.told() & ~o.told(day));
            int minute = random.nextInt(61);
            int moved = 0;
            int suits = 0;
            for (int s = 0; s < seats; s++) {
                p = o.copy();
                p.acts.add(new int[] {c, s, minute});
                moved |= p.isTold(c) ? 1 << s : 0;
                p = o.copy();
                p.callers[c][2] = s;
                suits |= p.isTold(c) ? 1 << s : 0;
            }
            is("moved", x.moved(c, minute), moved);
            is("suits", x.suits(c), suits);
            is("hour", x.hour(c), hour(c));
            is("youth", x.youth(c), youth(c));
        }
        for (int s = 0; s < seats; s++) {
            Oracle p = o.copy();
            p.gives[s] = 0;
            is("less", x.less(s), p.told());
            int tuned = -9;
            for (int g = 9, most = 0; g >= -9; g--) {
                p.gives[s] = g;
                int told = Integer.bitCount(p.told());
                if (told >= most) {
                    most = told;
                    tuned = g;
                }
            }
            is("tuned", x.tuned(s), tuned);
        }
        everyAndLaw();
    }

    private int hour(int c) {
        Oracle p = o.copy();
        for (int off = 0; off <= 30; off++) {
            for (int m = o.callers[c][1] - off; m <= o.callers[c][1] + off; m += Math.max(1, 2 * off)) {
                p.callers[c][1] = m;
                if (m >= 0 && m <= 30 && p.isTold(c)) {
                    return m;
                }
            }
        }
        return -1;
    }

    private int youth(int c) {
        Oracle p = o.copy();
        for (int age = 0; age <= 99; age++) {
            p.callers[c][0] = age;
            if (p.isTold(c)) {
                return age;
            }
        }
        return -1;
    }

    private void everyAndLaw() {
        Oracle p = o.copy();
        int every = 1;
        int calls = 0;
        int none = -1;
        for (int e = 30; e >= 1; e--) {
            p.every = e;
            Oracle.Shown d = p.day();
            int told = Integer.bitCount(p.told(d));
            if (told >= calls) {
                calls = told;
                every = e;
            }
            none = Arrays.stream(d.called).allMatch(m -> m >= 0) ? e : none;
        }
        is("every", x.every(), every);
        is("calls", x.calls(), calls);
        is("none", x.none(), none);
        p = o.copy();
        int law = 0;
        for (int k = 3, most = 0; k >= 0; k--) {
            p.law = k;
            int told = p.told();
            is("by", x.by(k), told);
            if (Integer.bitCount(told) >= most) {
                most = Integer.bitCount(told);
                law = k;
            }
        }
        is("law", x.law(), law);
    }

    private void plans(int seed) {
        if (Math.pow(seats, n) > 700 && seed % 20 != 0) {
            return;
        }
        int[] due = o.best();
        is("best", x.best(), due[0]);
        is("ways", x.ways(), due[1]);
        for (int c = 0; c < n; c++) {
            is("plan", x.plan(c), due[2 + c]);
        }
    }

    private void seen() {
        List<Long> row = new ArrayList<>();
        Oracle real = o.copy();
        real.law = random.nextInt(4);
        Oracle.Shown d = real.day();
        for (int i = random.nextInt(4); i > 0 && n > 0; i--) {
            int c = random.nextInt(n);
            int m = random.nextInt(61);
            int age = random.nextInt(4) == 0 ? random.nextInt(101) - 1 : d.age[m][c];
            row.addAll(List.of((long) c, (long) m, (long) age));
        }
        long[] numbers = row.stream().mapToLong(v -> v).toArray();
        Tell.row(x, 2, random.nextInt(4), numbers);
        int laws = 0;
        Oracle p = o.copy();
        for (int law = 0; law < 4; law++) {
            p.law = law;
            laws |= fits(numbers, p.day()) ? 1 << law : 0;
        }
        is("laws", x.laws(2), laws);
        for (int c = 0; c < n; c++) {
            asked(numbers, c);
        }
    }

    private void asked(long[] numbers, int c) {
        int sat = 0;
        List<Oracle.Shown> left = new ArrayList<>();
        for (int s = 0; s < seats; s++) {
            Oracle p = o.copy();
            p.callers[c][2] = s;
            Oracle.Shown shown = p.day();
            if (fits(numbers, shown)) {
                sat |= 1 << s;
                left.add(shown);
            }
        }
        is("sat", x.sat(2, c), sat);
        int ask = -1;
        int fewest = left.size();
        for (int m = 0; m <= 60; m++) {
            int[] of = new int[101];
            for (Oracle.Shown shown : left) {
                of[shown.age[m][c] + 1]++;
            }
            int worst = Arrays.stream(of).max().getAsInt();
            if (worst < fewest) {
                fewest = worst;
                ask = m;
            }
        }
        is("ask", x.ask(2, c), ask);
    }

    private static boolean fits(long[] row, Oracle.Shown d) {
        for (int i = 0; i < row.length; i += 3) {
            if (d.age[(int) row[i + 1]][(int) row[i]] != row[i + 2]) {
                return false;
            }
        }
        return true;
    }

    private void games() {
        int swaps = 0;
        int swap = -1;
        for (int c = 0; c < n; c++) {
            for (int d = 0; d < n; d++) {
                if (c != d) {
                    game(c, d);
                }
                if (c < d) {
                    int both = 1 << c | 1 << d;
                    Oracle p = o.copy();
                    p.callers[c][2] = o.callers[d][2];
                    p.callers[d][2] = o.callers[c][2];
                    if ((o.told(day) & both) != both && (p.told() & both) == both) {
                        swaps++;
                        swap = swap < 0 ? 10 * c + d : swap;
                    }
                }
            }
        }
        is("swaps", x.swaps(), swaps);
        is("swap", x.swap(), swap);
    }

    private void game(int c, int d) {
        boolean[][][] has = new boolean[seats][seats][2];
        Oracle p = o.copy();
        for (int s = 0; s < seats; s++) {
            for (int t = 0; t < seats; t++) {
                p.callers[c][2] = s;
                p.callers[d][2] = t;
                has[s][t][0] = p.isTold(c);
                has[s][t][1] = p.isTold(d);
            }
        }
        int rests = 0;
        int first = -1;
        for (int s = 0; s < seats; s++) {
            for (int t = 0; t < seats; t++) {
                boolean rest = true;
                for (int u = 0; u < seats; u++) {
                    rest &= has[s][t][0] || !has[u][t][0];
                    rest &= has[s][t][1] || !has[s][u][1];
                }
                rests += rest ? 1 : 0;
                first = rest && first < 0 ? 10 * s + t : first;
            }
        }
        is("rests", x.rests(c, d), rests);
        is("rest", x.rest(c, d), first);
    }

    private void chances(int seed) {
        int most = seed % 10 == 0 ? 10 : 4;
        for (int k = 0; k <= most; k++) {
            long[] mean = o.chance(-1, k, false);
            is("mean " + k + " above", x.mean(k, 0), mean[0]);
            is("mean " + k + " below", x.mean(k, 1), mean[1]);
            if (n > 0) {
                int c = random.nextInt(n);
                long[] chance = o.chance(c, k, false);
                is("chance " + k + " above", x.chance(c, k, 0), chance[0]);
                is("chance " + k + " below", x.chance(c, k, 1), chance[1]);
                long[] lucky = o.chance(c, k, true);
                is("luckily " + k + " above", x.luckily(c, k, 0), lucky[0]);
                is("luckily " + k + " below", x.luckily(c, k, 1), lucky[1]);
            }
        }
    }

    private void draws() {
        int seed = random.nextInt(2000000001);
        long missed = o.drawn(seed);
        is("drawn 0", x.drawn(seed, 0), o.told(o.day(call -> (missed >> call & 1) != 0)));
        is("drawn 1", x.drawn(seed, 1), Long.bitCount(missed));
        int days = 1 + random.nextInt(20);
        for (int c = 0; c < n; c++) {
            int forgotten = 0;
            for (int i = 0; i < days; i++) {
                long gone = o.drawn(seed + i);
                forgotten += o.day(call -> (gone >> call & 1) != 0).called[c] < 0 ? 1 : 0;
            }
            is("luck", x.luck(seed, days, c), forgotten);
        }
    }
}
