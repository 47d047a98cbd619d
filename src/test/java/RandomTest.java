import java.util.Random;

/**
 * Runs of calls with arguments in and out of range, always the same ones: promises that say what one
 * call tells about others are compared, and no exception may come that the document does not name.
 */
final class RandomTest {
    private static final int RUNS = 400;
    private static final int CALLS = 60;

    private final Random random;
    private final LampRelay relay = new LampRelay();

    private RandomTest(int seed) {
        random = new Random(seed);
    }

    static void run() {
        for (int seed = 0; seed < RUNS; seed++) {
            RandomTest test = new RandomTest(seed);
            for (int i = 0; i < CALLS; i++) {
                test.changeAndUndo();
                test.change();
            }
            test.compareForesight(seed);
            test.compareLeastPower(seed);
        }
    }

    private int below(int bound) {
        return random.nextInt(bound);
    }

    /** Mostly from 0 to greatest, seldom beyond. */
    private int upTo(int greatest) {
        return below(12) == 0 ? below(3) * (greatest + 2) - 1 : below(greatest + 1);
    }

    private void changeAndUndo() {
        long before = relay.checksum();
        boolean isChange = change();
        if (isChange) {
            Check.due("undo", true, relay.undo() >= 0);
        }
        Check.due("checksum as before", before, relay.checksum());
    }

    /** Returns whether it was a change. */
    private boolean change() {
        int kind = below(8);
        try {
            return make(kind);
        } catch (IndexOutOfBoundsException e) {
            Check.due("kind of a call that throws IndexOutOfBoundsException: " + kind, true,
                    isOwn(e) && (kind == 2 || kind >= 4 && kind <= 6));
        } catch (IllegalArgumentException e) {
            Check.due("kind of a call that throws IllegalArgumentException: " + kind, true, kind != 6);
        } catch (IllegalStateException e) {
            Check.due("kind of a call that throws IllegalStateException: " + kind, true,
                    kind >= 2 && kind != 5 && kind <= 6);
        }
        return false;
    }

    /** Not one that the machine throws. */
    private static boolean isOwn(RuntimeException e) {
        return e.getClass() == IndexOutOfBoundsException.class;
    }

    private boolean make(int kind) {
        switch (kind) {
            case 0:
            case 1:
            case 7:
                if (below(6) == 0) {
                    Check.feed(relay, setup());
                    return relay.load(relay.append(0x20202020, 0x20202020, 0x20202020, 0x20202020, 0x20202020)) >= 0;
                }
                relay.pass(upTo(kind == 7 ? 100 : 9));
                return true;
            case 2:
                emptyBuffer();
                Check.feed(relay, "theletterswhichalampsends");
                relay.send(upTo(1), upTo(9), upTo(24));
                return true;
            case 3:
                int first = Math.min(relay.state(0), 9000) + below(20);
                relay.fog(first, first + below(30) - below(2), upTo(9));
                return true;
            case 4:
                relay.relieve(upTo(1), below(2) * upTo(25));
                return true;
            case 5:
                relay.power(upTo(1), upTo(9));
                return true;
            default:
                relay.cancel(upTo(7));
                return true;
        }
    }

    private void emptyBuffer() {
        if (relay.load(0) >= 0) {
            Check.tell("load(0) answered no error");
        }
    }

    private String setup() {
        emptyBuffer();
        StringBuilder text = new StringBuilder("relay ");
        text.append(1 + below(8)).append(' ').append(1 + below(9)).append(';');
        for (int i = below(3); i > 0; i--) {
            text.append("channel ").append(i - 1).append(' ').append(below(10)).append(' ').append(below(24));
            text.append(' ').append(below(24)).append(';');
        }
        for (int i = below(8); i > 0; i--) {
            text.append("mist ").append(10 * i).append(' ').append(10 * i + below(99)).append(' ');
            text.append(upTo(9)).append(';');
        }
        for (int i = below(5); i > 0; i--) {
            text.append("message ").append(below(2)).append(' ').append(below(10)).append(" relaybylamps;");
        }
        return text.toString();
    }

    private void compareForesight(int seed) {
        int ticks = relay.foretold(0);
        int agreeing = relay.foretold(1);
        int givenUp = relay.foretold(2);
        int before = relay.state(9);
        Check.passAll(relay, ticks < 0 ? 1000 : ticks);
        int left = relay.state(3) + (relay.state(2) < 0 ? 0 : 1);
        Check.due(seed + ": messages are left", ticks < 0, left > 0);
        Check.due(seed + ": agree", agreeing, relay.state(5));
        Check.due(seed + ": given up", givenUp, relay.state(9) - before);
        for (int i = 0; i < 8; i++) {
            relay.undo();
        }
    }

    private void compareLeastPower(int seed) {
        emptyBuffer();
        Check.load(relay, "relay 3 2;message 0 " + below(10) + " abcdefgh;message 1 4 ijkl;message 0 1 m;");
        for (int i = 0; i < 3; i++) {
            int first = below(30);
            relay.fog(first, first + below(9), below(10));
        }
        relay.pass(1 + below(12));
        int unfinished = relay.state(3) + (relay.state(2) < 0 ? 0 : 1);
        for (int channel = 0; channel < 2; channel++) {
            int least = unfinished == 0 ? 0 : -1;
            for (int power = 9; power >= 0 && unfinished > 0; power--) {
                relay.power(channel, power);
                if (relay.foretold(0) >= 0 && relay.foretold(1) - relay.state(5) == unfinished) {
                    least = power;
                }
                relay.undo();
            }
            Check.due(seed + ": leastPower(" + channel + ")", least, relay.leastPower(channel));
        }
    }
}
