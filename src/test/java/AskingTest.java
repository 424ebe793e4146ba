import java.util.ArrayList;
import java.util.List;
import java.util.Random;
import java.util.function.ToLongFunction;

/** To ask changes nothing: whatever was asked ahead of it, a call answers as on an object that was asked nothing. */
public final class AskingTest {
    private static final Due DUE = new Due("AskingTest");
    private static final int BENCHES = 60;
    private static final int ASKED = 350;

    private final Random random;
    private final String text;
    private final List<int[]> acts = new ArrayList<>();
    private final List<String> names = new ArrayList<>();
    private final List<ToLongFunction<WearingBench>> calls = new ArrayList<>();

    private AskingTest(int seed) {
        random = new Random(seed);
        Oracle o = Oracle.random(random);
        while (o.callers.length < 2) {
            o = Oracle.random(random);
        }
        text = o.text(random);
        for (int i = random.nextInt(6); i > 0; i--) {
            acts.add(new int[] {random.nextInt(o.callers.length), random.nextInt(o.gives.length), random.nextInt(20)});
        }
    }

    public static void main(String[] args) {
        for (int seed = 0; seed < BENCHES; seed++) {
            AskingTest t = new AskingTest(seed);
            t.listCalls();
            t.askAll();
        }
        DUE.end();
    }

    private WearingBench told() {
        WearingBench x = Tell.of(text);
        for (int[] act : acts) {
            x.move(act[0], act[1], act[2]);
        }
        Tell.row(x, 0, 1, 0, 12, 50);
        Tell.row(x, 1, 0, 1, 2, 3, 4, 0, 9);
        x.row(2, 3, 0);
        return x;
    }

    private void askAll() {
        List<Long> due = new ArrayList<>();
        for (ToLongFunction<WearingBench> call : calls) {
            due.add(call.applyAsLong(told()));
        }
        WearingBench x = told();
        String before = "";
        for (int i = 0; i < ASKED; i++) {
            int k = random.nextInt(calls.size());
            long got = calls.get(k).applyAsLong(x);
            DUE.is(got == due.get(k) ? "" : names.get(k) + " behind " + before + " of " + text, got, due.get(k));
            before = names.get(k);
        }
    }

    private void add(String name, ToLongFunction<WearingBench> call) {
        names.add(name);
        calls.add(call);
    }

    private void listCalls() {
        for (int c = 0; c < 2; c++) {
            int caller = c;
            add("age " + c, x -> x.age(caller, 9));
            add("without " + c, x -> x.without(caller));
            add("helps " + c, x -> x.helps(caller));
            add("less " + c, x -> x.less(caller));
            add("tuned " + c, x -> x.tuned(caller));
            add("moved " + c, x -> x.moved(caller, 3));
            add("suits " + c, x -> x.suits(caller));
            add("hour " + c, x -> x.hour(caller));
            add("youth " + c, x -> x.youth(caller));
            add("plan " + c, x -> x.plan(caller));
            add("sat " + c, x -> x.sat(0, caller));
            add("ask " + c, x -> x.ask(2, caller));
            add("rests " + c, x -> x.rests(caller, 1 - caller));
            add("rest " + c, x -> x.rest(caller, 1 - caller));
            add("chance " + c, x -> x.chance(caller, 6, 0));
            add("luckily " + c, x -> x.luckily(caller, 6, 0));
            add("luck " + c, x -> x.luck(7, 20, caller));
            add("under " + c, x -> x.under(1, caller));
        }
        listWholes();
    }

    private void listWholes() {
        add("told", x -> x.told());
        add("forgotten", x -> x.forgotten());
        add("deepest", x -> x.deepest());
        add("crowd", x -> x.crowd());
        add("best", x -> x.best());
        add("ways", x -> x.ways());
        add("every", x -> x.every());
        add("calls", x -> x.calls());
        add("none", x -> x.none());
        add("by 0", x -> x.by(0));
        add("by 3", x -> x.by(3));
        add("law", x -> x.law());
        add("laws", x -> x.laws(0));
        add("marks", x -> x.marks(1));
        add("mark", x -> x.mark(1, 1));
        add("swaps", x -> x.swaps());
        add("swap", x -> x.swap());
        add("mean", x -> x.mean(6, 0));
        add("drawn", x -> x.drawn(11, 0));
        add("image", x -> x.image(1));
        for (int what = 0; what < 10; what++) {
            int k = what;
            add("count " + what, x -> x.count(k));
        }
    }
}
