import java.math.BigInteger;
import java.util.ArrayList;
import java.util.List;

/** The sentences under "Changes", and promises 22 and 23 at their edges. */
final class HistoryTest {
    private HistoryTest() {
    }

    static void run() {
        eachMethodIsOneChange();
        changesThatChangeNothing();
        callsThatAreNoChanges();
        finalChanges();
        undoWithinAFrame();
        undoOfAnEnd();
        undoOfLoads();
        bufferAndOffset();
        checksumOverflows();
    }

    /** "The changing methods are load (when it succeeds), pass, send, fog, relieve, power and cancel" */
    private static void eachMethodIsOneChange() {
        LampRelay relay = Check.loaded("relay 4 3;mist 2 5 5;keeper 1 0 3;message 0 0 abcdef;message 1 2 xy;");
        relay.pass(3);
        Check.feed(relay, "ghi");
        Check.due("load and pass can be undone", 1, undoneAndAgain(relay, () -> relay.pass(5)));
        undone(relay, "pass", () -> relay.pass(5));
        undone(relay, "pass up to the end", () -> relay.pass(100));
        undone(relay, "fog", () -> relay.fog(0, 50, 9));
        undone(relay, "relieve", () -> relay.relieve(0, 25));
        undone(relay, "relieve, with a keeper before", () -> relay.relieve(1, 25));
        undone(relay, "power of 0", () -> relay.power(0, 0));
        undone(relay, "power of 1", () -> relay.power(1, 9));
        undone(relay, "cancel on the way", () -> relay.cancel(1));
        undone(relay, "cancel waiting", () -> relay.cancel(0));
        undone(relay, "send", () -> relay.send(1, 9, 3));
        Check.feed(relay, "relay 1 1;mist 0 9 9;message 0 9 a;");
        undone(relay, "load", () -> relay.load(35));
    }

    /** Makes the change, undoes it, and tells how many changes can be undone then. */
    private static int undoneAndAgain(LampRelay relay, Check.Call change) {
        change.answer();
        return relay.undo() - 1;
    }

    private static void undone(LampRelay relay, String name, Check.Call change) {
        String before = Check.view(relay);
        change.answer();
        Check.due(name + " changes", false, before.equals(Check.view(relay)));
        Check.due(name + ": undo", 2, relay.undo());
        Check.dueText(name + " undone", before, Check.view(relay));
    }

    /** "each such call that does not throw an exception is a change, also if all data stay as they were" */
    private static void changesThatChangeNothing() {
        LampRelay relay = new LampRelay();
        String view = Check.view(relay);
        relay.power(0, 5);
        relay.power(1, 5);
        Check.load(relay, "relay 4 3;");
        Check.load(relay, "relay 4 3;");
        Check.dueText("all is as it was", view, Check.view(relay));
        relay.relieve(0, 7);
        view = Check.view(relay);
        relay.relieve(0, 7);
        Check.dueText("all is as it was", view, Check.view(relay));
        for (int left = 5; left >= 0; left--) {
            Check.due("undo", left, relay.undo());
        }
        Check.due("none is left", -1, relay.undo());
    }

    private static void callsThatAreNoChanges() {
        LampRelay relay = Check.loaded("relay 4 3;message 0 0 abc;");
        relay.fog(1, 2, 3);
        relay.append(0x20202020, 0, 0, 0, 0);
        Check.view(relay);
        relay.load(20);
        relay.load(0);
        Check.dueThrow("load", IllegalArgumentException.class, () -> relay.load(1));
        Check.dueThrow("pass", IllegalArgumentException.class, () -> relay.pass(101));
        Check.dueThrow("send", IllegalArgumentException.class, () -> relay.send(0, 0, 1));
        Check.dueThrow("fog", IllegalArgumentException.class, () -> relay.fog(0, 0, 10));
        Check.dueThrow("relieve", IndexOutOfBoundsException.class, () -> relay.relieve(2, 0));
        Check.dueThrow("power", IndexOutOfBoundsException.class, () -> relay.power(2, 0));
        Check.dueThrow("cancel", IndexOutOfBoundsException.class, () -> relay.cancel(1));
        Check.due("only fog and load are changes", 1, relay.undo());
        Check.due("mists", 0, relay.state(10));
        Check.due("the load", 0, relay.undo());
        Check.due("none is left", -1, relay.undo());
        Check.due("nothing changes then", 0, relay.state(1));
        Check.due("undo is no change", -1, relay.undo());
    }

    /** "a change is final as soon as 8 later ones, none of them undone, have been made" */
    private static void finalChanges() {
        for (int first = 0; first <= 10; first++) {
            for (int undone = 0; undone <= 9; undone++) {
                for (int second = 0; second <= 10; second++) {
                    finalChanges(first, undone, second);
                }
            }
        }
    }

    private static void finalChanges(int first, int undone, int second) {
        LampRelay relay = new LampRelay();
        List<Integer> times = new ArrayList<>();
        change(relay, times, first, 1);
        undo(relay, times, undone);
        change(relay, times, second, 20);
        undo(relay, times, 9);
    }

    private static void change(LampRelay relay, List<Integer> times, int changes, int ticks) {
        for (int i = 0; i < changes; i++) {
            times.add(relay.state(0));
            if (times.size() > 8) {
                times.remove(0);
            }
            relay.pass(ticks);
        }
    }

    private static void undo(LampRelay relay, List<Integer> times, int calls) {
        for (int i = 0; i < calls; i++) {
            int time = times.isEmpty() ? relay.state(0) : times.remove(times.size() - 1);
            boolean isLeft = relay.state(0) != time;
            Check.due("undo", isLeft ? times.size() : -1, relay.undo());
            Check.due("time", time, relay.state(0));
        }
    }

    /** What the receiver has heard of a frame comes back, too: both relays end alike. */
    private static void undoWithinAFrame() {
        String[] mists = {"mist 1 1 5;mist 5 5 5;", "mist 0 0 5;mist 5 5 5;", "mist 3 3 9;", "mist 6 6 5;",
            "mist 2 2 5;mist 5 6 5;", "mist 0 0 9;mist 4 4 5;"};
        for (String told : mists) {
            String setup = "relay 4 2;channel 1 7 0 0;keeper 0 2 3;keeper 1 2 3;" + told
                    + "message 0 1 azbycxd;message 1 0 lamp;";
            LampRelay straight = Check.loaded(setup);
            LampRelay detours = Check.loaded(setup);
            for (int i = 0; i < 40 && straight.state(4) < 2; i++) {
                detour(detours, i);
                Check.dueText(told + " behind detour " + i, Check.view(straight), Check.view(detours));
                straight.pass(1);
                detours.pass(1);
            }
            Check.due("all is over", 2, straight.state(4));
            Check.dueText("the end", Check.view(straight), Check.view(detours));
        }
    }

    /** Changes of all kinds that reach into what is on the way, all of them undone. */
    private static void detour(LampRelay relay, int i) {
        int changes = 4;
        relay.pass(1 + i % 7);
        relay.power(0, i % 10);
        relay.pass(1 + i % 9);
        if (relay.state(2) >= 0) {
            relay.cancel(relay.state(2));
            changes++;
        }
        relay.pass(1);
        for (int undone = 0; undone < changes; undone++) {
            relay.undo();
        }
    }

    /** A message that was over or cancelled is on the way again, and ends as before. */
    private static void undoOfAnEnd() {
        LampRelay relay = Check.loaded("relay 4 3;message 0 0 abcde;message 0 0 z;");
        relay.pass(6);
        String before = Check.view(relay);
        Check.due("the end", 1, relay.pass(1));
        relay.undo();
        Check.dueText("before the end", before, Check.view(relay));
        Check.due("it can be cancelled", true, relay.cancel(0));
        relay.undo();
        Check.due("the end again", 1, relay.pass(1));
        Check.due("agrees", 1, relay.state(5));
        Check.dueThrow("it is over", IllegalStateException.class, () -> relay.cancel(0));
    }

    /** Eight loads, undone one by one; what was told in them comes back, and the counters of their symbols. */
    private static void undoOfLoads() {
        LampRelay relay = new LampRelay();
        List<String> views = new ArrayList<>();
        for (int i = 1; i <= 4; i++) {
            views.add(Check.view(relay));
            Check.load(relay, "relay " + i + " " + (9 - i) + ";channel 0 " + i + " " + i + " 0;channel 1 9 0 " + i
                    + ";keeper 0 " + i + " " + i + ";keeper 1 0 " + 5 * i + ";mist 0 " + 3 * i + " " + i + ";"
                    + ("message " + i % 2 + " " + i + " lamprelay;").repeat(5 - i));
            views.add(Check.view(relay));
            relay.pass(20 * i);
        }
        for (int i = 7; i >= 0; i--) {
            Check.due("undo", i, relay.undo());
            Check.dueText("view " + i, views.get(i), Check.view(relay));
        }
        Check.due("none is left", -1, relay.undo());
    }

    /** "The input buffer and the error offset are not affected." */
    private static void bufferAndOffset() {
        LampRelay relay = new LampRelay();
        relay.pass(1);
        Check.load(relay, "relay 0");
        Check.due("append", 20, Check.feed(relay, "hello"));
        Check.due("undo", 0, relay.undo());
        Check.due("offset", 6, relay.errorOffset());
        Check.due("the buffer is as it was", 40, Check.feed(relay, "relay 4 3;"));
        Check.due("undo of nothing", -1, relay.undo());
        Check.due("the buffer is as it was", 60, Check.feed(relay, "relay 4 3;"));
        Check.due("offset", 6, relay.errorOffset());
        Check.due("letters", 0, relay.send(0, 0, 5));
        Check.due("undo of send", 0, relay.undo());
        Check.due("the buffer stays empty", 20, Check.feed(relay, "relay 4 3;"));
        Check.due("load", 0, relay.load(20));
        Check.due("offset", -1, relay.errorOffset());
        Check.due("undo of load", 0, relay.undo());
        Check.due("offset stays", -1, relay.errorOffset());
        Check.due("the buffer stays empty", 20, Check.feed(relay, "hello"));
    }

    /** "wrapping around on overflow of a long" */
    private static void checksumOverflows() {
        LampRelay relay = new LampRelay();
        dueChecksum(relay);
        for (int i = 0; i < 8; i++) {
            Check.send(relay, i % 2, i, "abcdefghijklmnopqrstuvwx");
            dueChecksum(relay);
        }
        relay.fog(3, 30, 5);
        for (int i = 0; i < 30; i++) {
            relay.pass(1 + i % 10);
            dueChecksum(relay);
        }
    }

    private static void dueChecksum(LampRelay relay) {
        BigInteger sum = BigInteger.ZERO;
        for (int what = 0; what <= 12; what++) {
            sum = added(sum, relay.state(what));
        }
        for (int i = 0; i < 12; i++) {
            sum = added(sum, relay.channel(i / 6, i % 6));
        }
        for (int message = 0; message < relay.state(1); message++) {
            for (int what = 0; what <= 9; what++) {
                sum = added(sum, relay.message(message, what));
            }
            for (int k = 0; k < relay.message(message, 2); k++) {
                sum = added(added(sum, relay.letter(message, k, true)), relay.why(message, k));
            }
        }
        Check.due("the sum is beyond a long", true, sum.bitLength() > 64);
        Check.due("checksum", sum.longValue(), relay.checksum());
    }

    private static BigInteger added(BigInteger sum, int number) {
        return sum.multiply(BigInteger.valueOf(31)).add(BigInteger.valueOf(number));
    }
}
