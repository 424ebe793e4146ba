import java.util.ArrayList;
import java.util.Arrays;
import java.util.List;
import java.util.Random;
import java.util.function.IntPredicate;

/** The document once more, as plainly as can be and without a thought of speed, to be compared with. */
final class Oracle {
    int law;
    int wear;
    int every;
    int odds;
    int[] gives = {};
    /** Each caller: age, comes, seat, least, most. */
    int[][] callers = {};
    /** Each act: caller, seat, minute. */
    List<int[]> acts = new ArrayList<>();
    int absent = -1;

    /** What a day showed. */
    static final class Shown {
        int[][] age = new int[61][];
        int[][] seat = new int[61][];
        int[] called;
        int[] calledAge;
        boolean[] did;
    }

    static Oracle random(Random r) {
        Oracle o = new Oracle();
        o.law = r.nextInt(4);
        o.wear = r.nextInt(100);
        o.every = r.nextInt(4) == 0 ? 1 + r.nextInt(30) : 1 + r.nextInt(12);
        o.odds = r.nextInt(11);
        int seats = r.nextInt(7);
        o.gives = new int[seats];
        for (int s = 0; s < seats; s++) {
            o.gives[s] = r.nextInt(19) - 9;
        }
        int n = seats == 0 ? 0 : r.nextInt(6);
        o.callers = new int[n][];
        int late = r.nextBoolean() ? 31 : 6;
        for (int c = 0; c < n; c++) {
            int least = r.nextInt(100);
            int most = Math.min(99, least + r.nextInt(60));
            o.callers[c] = new int[] {r.nextInt(100), r.nextInt(late), r.nextInt(seats), least, most};
        }
        return o;
    }

    String text(Random r) {
        StringBuilder t = new StringBuilder("bench law " + law + " wear " + wear + " every " + every + " odds " + odds + ";");
        int s = 0;
        int c = 0;
        while (s < gives.length || c < callers.length) {
            boolean callerCan = c < callers.length && callers[c][2] < s;
            if (callerCan && (s == gives.length || r.nextBoolean())) {
                int[] k = callers[c++];
                t.append("caller age " + k[0] + " comes " + k[1] + " seat " + k[2] + " told " + k[3] + " to " + k[4] + ";");
            } else {
                int g = gives[s++];
                t.append(g < 0 ? "seat takes " + -g + ";" : "seat gives " + g + ";");
            }
        }
        return t.toString();
    }

    Oracle copy() {
        Oracle o = new Oracle();
        o.law = law;
        o.wear = wear;
        o.every = every;
        o.odds = odds;
        o.gives = gives.clone();
        o.callers = new int[callers.length][];
        for (int c = 0; c < callers.length; c++) {
            o.callers[c] = callers[c].clone();
        }
        o.acts = new ArrayList<>(acts);
        return o;
    }

    Shown day() {
        return day(call -> false);
    }

    /** Calls are numbered from 0. */
    Shown day(IntPredicate missed) {
        int n = callers.length;
        Shown d = new Shown();
        d.called = new int[n];
        d.calledAge = new int[n];
        Arrays.fill(d.called, -1);
        d.did = new boolean[acts.size()];
        int[] years = new int[n];
        int[] on = new int[n];
        boolean[] there = new boolean[n];
        for (int c = 0; c < n; c++) {
            years[c] = callers[c][0];
            on[c] = -1;
        }
        for (int m = 0; m <= 60; m++) {
            for (int a = 0; a < acts.size(); a++) {
                int[] act = acts.get(a);
                if (act[2] == m && there[act[0]] && isFree(on, act[1])) {
                    on[act[0]] = act[1];
                    d.did[a] = true;
                }
            }
            for (int c = 0; c < n; c++) {
                if (there[c] && on[c] < 0) {
                    on[c] = seatFor(on, callers[c][2]);
                }
            }
            for (int c = 0; c < n; c++) {
                if (callers[c][1] == m && c != absent) {
                    there[c] = true;
                    on[c] = seatFor(on, callers[c][2]);
                }
            }
            d.age[m] = new int[n];
            d.seat[m] = on.clone();
            for (int c = 0; c < n; c++) {
                d.age[m][c] = there[c] ? years[c] : -1;
            }
            if (m > 0 && m % every == 0 && !missed.test(m / every - 1)) {
                int who = -1;
                for (int c = n - 1; c >= 0; c--) {
                    if (there[c] && (who < 0 || callers[c][1] <= callers[who][1])) {
                        who = c;
                    }
                }
                if (who >= 0) {
                    there[who] = false;
                    on[who] = -1;
                    d.called[who] = m;
                    d.calledAge[who] = years[who];
                }
            }
            for (int c = 0; c < n; c++) {
                if (on[c] >= 0) {
                    years[c] = grow(d, on, c, m, years[c]);
                }
            }
        }
        return d;
    }

    private int grow(Shown d, int[] on, int c, int m, int years) {
        int g = gives[on[c]];
        int then = years;
        if (law == 0) {
            then = years + g;
        } else if (law == 1) {
            for (int i = 0; i < Math.abs(g); i++) {
                then += Integer.signum(wear - then);
            }
        } else if (law == 2) {
            int sat = 0;
            while (m - 1 - sat >= 0 && d.seat[m - 1 - sat][c] == on[c]) {
                sat++;
            }
            then = sat % 2 == 0 ? years + g : years;
        } else {
            then = years + g;
            for (int other : on) {
                if (other == on[c] - 1 && other >= 0 || other == on[c] + 1) {
                    then++;
                }
            }
        }
        return then < 0 ? 0 : then > 99 ? 99 : then;
    }

    private boolean isFree(int[] on, int seat) {
        for (int s : on) {
            if (s == seat) {
                return false;
            }
        }
        return true;
    }

    private int seatFor(int[] on, int own) {
        for (int i = 0; i < gives.length; i++) {
            if (isFree(on, (own + i) % gives.length)) {
                return (own + i) % gives.length;
            }
        }
        return -1;
    }

    int told(Shown d) {
        int bits = 0;
        for (int c = 0; c < callers.length; c++) {
            if (end(d, c) == 0) {
                bits |= 1 << c;
            }
        }
        return bits;
    }

    int told() {
        return told(day());
    }

    boolean isTold(int c) {
        return (told() >> c & 1) != 0;
    }

    int end(Shown d, int c) {
        if (d.called[c] < 0) {
            return 3;
        }
        return d.calledAge[c] < callers[c][3] ? 1 : d.calledAge[c] > callers[c][4] ? 2 : 0;
    }

    /** Best, ways, then the plan, by every row there is. */
    int[] best() {
        int n = callers.length;
        Oracle o = copy();
        int rows = 1;
        for (int c = 0; c < n; c++) {
            rows *= gives.length;
        }
        int[] found = new int[2 + n];
        found[0] = -1;
        for (int row = 0; row < rows; row++) {
            int left = row;
            for (int c = n - 1; c >= 0; c--) {
                o.callers[c][2] = left % gives.length;
                left /= gives.length;
            }
            int told = Integer.bitCount(o.told());
            if (told > found[0]) {
                found[0] = told;
                found[1] = 0;
                for (int c = 0; c < n; c++) {
                    found[2 + c] = o.callers[c][2];
                }
            }
            if (told == found[0]) {
                found[1]++;
            }
        }
        return found;
    }

    /** Above, below of: caller goes in (told: is told off) at one of the first k; caller -1: the mean. */
    long[] chance(int caller, int k, boolean told) {
        int calls = Math.min(k, 60 / every);
        long above = 0;
        long below = 1;
        for (int i = 0; i < calls; i++) {
            below *= 10;
        }
        for (int mask = 0; mask < 1 << calls; mask++) {
            int missed = mask;
            long weight = 1;
            for (int i = 0; i < calls; i++) {
                weight *= (missed >> i & 1) != 0 ? odds : 10 - odds;
            }
            if (weight == 0) {
                continue;
            }
            Shown d = day(call -> call >= calls || (missed >> call & 1) != 0);
            for (int c = 0; c < callers.length; c++) {
                if ((caller < 0 || c == caller) && d.called[c] >= 0 && (!told || end(d, c) == 0)) {
                    above += weight;
                }
            }
        }
        java.math.BigInteger gcd = java.math.BigInteger.valueOf(above).gcd(java.math.BigInteger.valueOf(below));
        return new long[] {above / gcd.longValue(), below / gcd.longValue()};
    }

    /** The calls missed on a day drawn, as bits. */
    long drawn(long seed) {
        long missed = 0;
        long x = seed;
        for (int call = 0; (call + 1) * every <= 60; call++) {
            x = (1103515245L * x + 12345L) % 2147483648L;
            if (x / 65536 % 10 < odds) {
                missed |= 1L << call;
            }
        }
        return missed;
    }
}
