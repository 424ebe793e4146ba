/** Promises 1 to 7: a new object, the tape, the bench told by it, its faults. */
public final class TapeTest {
    private static final Due DUE = new Due("TapeTest");
    private static final String FIRST = "bench law 1 wear 20 every 5 odds 3;";

    public static void main(String[] args) {
        newObject();
        feedAndEnd();
        benches();
        faults();
        bounds();
        seatsAndCallers();
        DUE.end();
    }

    private static void newObject() {
        WearingBench x = new WearingBench();
        for (int what = 0; what <= 9; what++) {
            DUE.is("new count " + what, x.count(what), 0);
        }
        DUE.is("new told", x.told(), -2);
        DUE.is("new fault 0", x.fault(0), 0);
        DUE.is("new fault 1", x.fault(1), -1);
        DUE.is("new fault 2", x.fault(2), -1);
        DUE.is("new fault -1", x.fault(-1), -1);
        DUE.is("new back", x.back(0), -6);
        DUE.is("new write", x.write(0, 0, 0), -6);
        DUE.is("NONE", WearingBench.NONE, -1);
    }

    private static void feedAndEnd() {
        WearingBench x = new WearingBench();
        for (int i = 1; i <= 40; i++) {
            DUE.is("feed " + i, x.feed(0x20202020, 0x20202020, 0x20202020, 0x20202020, 0x20202020), 20 * i);
        }
        DUE.is("feed 41", x.feed(0, 0, 0, 0, 0), -1);
        DUE.is("full", x.count(8), 800);
        DUE.is("end 801", x.end(801), -1);
        DUE.is("end -1", x.end(-1), -1);
        DUE.is("end min", x.end(Integer.MIN_VALUE), -1);
        DUE.is("end max", x.end(Integer.MAX_VALUE), -1);
        DUE.is("end 800", x.end(800), 800);
        DUE.is("end 781", x.end(781), 781);
        DUE.is("feed at 781", x.feed(0, 0, 0, 0, 0), -1);
        DUE.is("stays 781", x.count(8), 781);
        DUE.is("end 780", x.end(780), 780);
        DUE.is("feed at 780", x.feed(0x20202020, 0x20202020, 0x20202020, 0x20202020, 0x20202020), 800);
        DUE.is("blanks are no bench", x.bench(), 0);
        DUE.is("tape is empty then", x.count(8), 0);
        DUE.is("end 0", x.end(0), 0);
        DUE.is("end 1 of none", x.end(1), -1);
        // the highest byte first: "seat" comes as s, e, a, t
        Tell.tape(x, FIRST);
        DUE.is("behind it", x.feed(0x73656174, 0x20676976, 0x65732037, 0x3b202020, 0x0a0a0a0a), 55);
        DUE.is("fed bench", x.bench(), 2);
        DUE.is("fed seat", x.seat(0), 7);
        // bytes above 127 stay what they are
        x.feed(0xffffffff, 0, 0, 0, 0);
        DUE.is("byte 255", x.bench(), -4);
        DUE.is("byte 255 fault", x.fault(0), 1);
        DUE.is("byte 255 place", x.fault(1), 0);
    }

    private static void benches() {
        WearingBench x = new WearingBench();
        DUE.is("empty", x.bench(), 0);
        DUE.is("empty fault", x.fault(0), 0);
        DUE.is("bench alone", Tell.bench(x, FIRST), 1);
        DUE.is("law", x.count(1), 1);
        DUE.is("wear", x.count(2), 20);
        DUE.is("every", x.count(3), 5);
        DUE.is("odds", x.count(4), 3);
        DUE.is("lines", x.count(7), 1);
        DUE.is("told", x.told(), 0);
        DUE.is("in place of it", Tell.bench(x, "bench law0wear00007every30odds10;\n seat\ntakes 9;"
                + "caller age1comes2seat0told3to4;seat gives 0;"), 4);
        DUE.is("wear 7", x.count(2), 7);
        DUE.is("every 30", x.count(3), 30);
        DUE.is("seats", x.count(0), 2);
        DUE.is("callers", x.count(5), 1);
        DUE.is("a caller", x.told(), 0);
        DUE.is("plans", x.best(), 0);
        DUE.is("moves", x.move(0, 1, 5), 1);
        DUE.is("a fault", Tell.bench(x, "bench;"), -4);
        DUE.is("acts stay", x.count(6), 1);
        DUE.is("lines stay", x.count(7), 4);
        DUE.is("tape is empty", x.count(8), 0);
        DUE.is("anew by bench", Tell.bench(x, FIRST), 1);
        DUE.is("nothing done", x.count(6), 0);
        DUE.is("no seat any more", x.seat(0), -100);
        DUE.is("fault is gone", x.fault(0), 0);
        DUE.is("place is gone", x.fault(1), -1);
        DUE.is("one told off", Tell.bench(x, FIRST + "seat gives 0;caller age 1 comes 0 seat 0 told 1 to 1;"), 3);
        DUE.is("told off", x.told(), 1);
        DUE.is("best", x.best(), 1);
        DUE.is("chance", x.luckily(0, 1, 0), 7);
        DUE.is("one not", Tell.bench(x, FIRST + "seat gives 0;caller age 1 comes 0 seat 0 told 2 to 2;"), 3);
        DUE.is("not told off", x.told(), 0);
        DUE.is("best then", x.best(), 0);
        DUE.is("chance then", x.luckily(0, 1, 0), 0);
        DUE.is("empty in place", x.bench(), 0);
        DUE.is("none then", x.told(), -2);
        for (int what = 0; what <= 9; what++) {
            DUE.is("count then " + what, x.count(what), 0);
        }
    }

    private static void faults() {
        fault("seat gives 1;", 1, 0);
        fault(";", 1, 0);
        fault("5", 1, 0);
        fault(" ?", 1, 1);
        fault("Bench law 0", 1, 0);
        fault("benchx law 0", 1, 0);
        fault("ben ch", 1, 0);
        fault("dench law 0", 1, 0);
        fault("bench paw 0", 1, 6);
        fault("benchz law 0", 1, 0);
        fault("bench lawa 0", 1, 6);
        fault("bench lawz 0", 1, 6);
        fault("bench law{ 0", 1, 9);
        fault("bench law` 0", 1, 9);
        fault("bench law 0/", 1, 11);
        fault("bench law 0:", 1, 11);
        fault("bench law 0wear 09every 09odds 09 :", 1, 34);
        fault("bench", 1, 5);
        fault("bench  \n", 1, 8);
        fault("bench law", 1, 9);
        fault("bench law ;", 1, 10);
        fault("bench law wear", 1, 10);
        fault("bench wear 0", 1, 6);
        fault("bench law -1", 1, 10);
        fault("bench law 4", 2, 10);
        fault("bench law 4294967296", 2, 10);
        fault("bench law 18446744073709551616", 2, 10);
        fault("bench law 0 wear 100", 2, 17);
        fault("bench law 0 wear 99 every 0", 2, 26);
        fault("bench law 0 wear 99 every 31", 2, 26);
        fault("bench law 0 wear 99 every 30 odds 11", 2, 34);
        fault("bench law 0 wear 99 every 30 odds 10", 1, 36);
        fault("bench law 0 wear 99 every 30 odds 10\t;", 1, 36);
        fault(FIRST + "bench law 1 wear 20 every 5 odds 3;", 1, 35);
        fault(FIRST + ";", 1, 35);
        fault(FIRST + "\n\n3;", 1, 37);
        fault(FIRST + "seats", 1, 35);
        fault(FIRST + "seat 5", 1, 40);
        fault(FIRST + "seat gives 10", 2, 46);
        fault(FIRST + "seat takes 10", 2, 46);
        fault(FIRST + "seat takes 1;seat", 1, 52);
        fault(FIRST + "seat gives 1 2;", 1, 48);
        fault(FIRST + "caller age 100", 2, 46);
        fault(FIRST + "caller age 99 comes 31", 2, 55);
        fault(FIRST + "caller age 99 comes 30 seat 0", 2, 63);
        fault(FIRST + "seat gives 1;caller age 5 comes 3 seat 1", 2, 74);
        fault(FIRST + "seat gives 1;caller age 5 comes 3 seat 0 told 100", 2, 81);
        fault(FIRST + "seat gives 1;caller age 5 comes 3 seat 0 told 10 to 9", 2, 87);
        fault(FIRST + "seat gives 1;caller age 5 comes 3 seat 0 told 10 to 100", 2, 87);
        fault(FIRST + "seat gives 1;caller age 5 comes 3 seat 0 told 10 to seat", 1, 87);
        String seats = "seat gives 1;".repeat(6);
        fault(FIRST + seats + "seat", 3, 113);
        fault(FIRST + seats + "seat ?", 3, 113);
        fault(FIRST + seats + "?", 1, 113);
        String callers = "caller age 5 comes 3 seat 5 told 1 to 9;".repeat(5);
        fault(FIRST + seats + callers + "caller 5", 3, 313);
        fault(FIRST + seats + callers + "seat gives 1;caller", 3, 313);
        WearingBench x = new WearingBench();
        DUE.is("twelve lines", Tell.bench(x, FIRST + seats + callers), 12);
        DUE.is("six seats", x.count(0), 6);
        DUE.is("five callers", x.count(5), 5);
    }

    private static void fault(String text, int kind, int place) {
        WearingBench x = new WearingBench();
        DUE.is("bench of " + text, Tell.bench(x, text), -4);
        DUE.is("fault of " + text, x.fault(0), kind);
        DUE.is("place in " + text, x.fault(1), place);
        DUE.is("other what", x.fault(2), -1);
        DUE.is("no bench by " + text, x.told(), -2);
        DUE.is("tape after " + text, x.count(8), 0);
    }

    private static void bounds() {
        WearingBench x = Tell.of("bench law 3 wear 0 every 1 odds 0;seat takes 0;seat gives 9;"
                + "caller age 0 comes 0 seat 1 told 0 to 0;caller age 99 comes 30 seat 0 told 99 to 99;");
        DUE.is("takes 0", x.seat(0), 0);
        DUE.is("gives 9", x.seat(1), 9);
        DUE.is("age 99", x.caller(1, 0), 99);
        DUE.is("comes 30", x.caller(1, 1), 30);
        DUE.is("told 99", x.caller(1, 3), 99);
        DUE.is("to 99", x.caller(1, 4), 99);
    }

    private static void seatsAndCallers() {
        WearingBench x = Tell.of(FIRST + "seat takes 4;seat gives 6;caller age 40 comes 2 seat 1 told 20 to 29;");
        DUE.is("seat 0", x.seat(0), -4);
        DUE.is("seat 1", x.seat(1), 6);
        DUE.is("seat 2", x.seat(2), -100);
        DUE.is("seat -1", x.seat(-1), -100);
        DUE.is("seat min", x.seat(Integer.MIN_VALUE), -100);
        int[] told = {40, 2, 1, 20, 29};
        for (int what = 0; what < 5; what++) {
            DUE.is("caller 0 " + what, x.caller(0, what), told[what]);
        }
        DUE.is("caller what 5", x.caller(0, 5), -2);
        DUE.is("caller what -1", x.caller(0, -1), -2);
        DUE.is("caller 1", x.caller(1, 0), -2);
        DUE.is("caller -1", x.caller(-1, 0), -2);
    }
}
