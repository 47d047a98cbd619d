/** Promises 22 and 23: undo and checksum. */
final class UndoTest {
    private UndoTest() {
    }

    static void run() {
        everyChange();
        onlyEight();
        whatIsFinal();
        whatIsNoChange();
        bufferAndOffsetStay();
        undoOfLoad();
        checksumByHand();
        checksumOfTheFace();
    }

    private static void everyChange() {
        LampRelay relay = Check.loaded("relay 2 2;mist 3 5 5;keeper 0 0 4;message 0 3 abcde;message 1 2 fg;");
        long loaded = relay.checksum();
        relay.pass(3);
        long[] before = new long[7];
        before[0] = relay.checksum();
        relay.pass(4);
        before[1] = relay.checksum();
        Check.send(relay, 0, 9, "xyz");
        before[2] = relay.checksum();
        relay.fog(8, 20, 9);
        before[3] = relay.checksum();
        relay.relieve(0, 7);
        before[4] = relay.checksum();
        relay.power(1, 2);
        before[5] = relay.checksum();
        relay.cancel(0);
        before[6] = relay.checksum();
        relay.pass(100);
        int[] left = {7, 6, 5, 4, 3, 2, 1};
        for (int i = 6; i >= 0; i--) {
            if (i == 3) {
                Check.due("relieved", 7, relay.key(0, 7));
            }
            if (i == 2) {
                Check.due("key as before", 4, relay.key(0, 7));
                Check.due("fog", 9, relay.mist(8));
            }
            Check.due("undo", left[6 - i], relay.undo());
            Check.due("checksum behind undo to " + i, before[i], relay.checksum());
        }
        Check.due("no fog", 0, relay.mist(8));
        Check.due("undo of the first pass", 0, relay.undo());
        Check.due("as loaded", loaded, relay.checksum());
        Check.due("the load is final", -1, relay.undo());
        Check.due("still as loaded", loaded, relay.checksum());
    }

    private static void onlyEight() {
        LampRelay relay = new LampRelay();
        for (int i = 0; i < 9; i++) {
            relay.power(0, i);
        }
        for (int i = 7; i >= 0; i--) {
            Check.due("undo", i, relay.undo());
            Check.due("power", i, relay.channel(0, 0));
        }
        Check.due("the first is final", -1, relay.undo());
        Check.due("power", 0, relay.channel(0, 0));
    }

    private static void whatIsFinal() {
        LampRelay relay = new LampRelay();
        for (int i = 0; i < 8; i++) {
            relay.power(0, i);
        }
        Check.due("undo", 7, relay.undo());
        relay.power(0, 9);
        for (int i = 7; i >= 1; i--) {
            Check.due("undo", i, relay.undo());
        }
        Check.due("the first is not final", 0, relay.undo());
        Check.due("power", 5, relay.channel(0, 0));
        for (int i = 0; i < 9; i++) {
            relay.power(0, i);
        }
        relay.undo();
        relay.undo();
        relay.power(1, 1);
        for (int i = 6; i >= 0; i--) {
            Check.due("undo", i, relay.undo());
        }
        Check.due("what was final stays so", -1, relay.undo());
        Check.due("power", 0, relay.channel(0, 0));
    }

    private static void whatIsNoChange() {
        LampRelay relay = new LampRelay();
        relay.power(0, 5);
        relay.pass(1);
        relay.state(0);
        relay.foretold(0);
        relay.leastPower(0);
        relay.checksum();
        relay.append(0x61616161, 0, 0, 0, 0);
        relay.load(3);
        Check.dueThrow("pass(0)", IllegalArgumentException.class, () -> relay.pass(0));
        Check.dueThrow("load(1)", IllegalArgumentException.class, () -> relay.load(1));
        Check.dueThrow("send", IllegalArgumentException.class, () -> relay.send(0, 0, 1));
        Check.dueThrow("fog", IllegalArgumentException.class, () -> relay.fog(1, 0, 0));
        Check.dueThrow("relieve", IllegalArgumentException.class, () -> relay.relieve(0, 26));
        Check.dueThrow("power", IllegalArgumentException.class, () -> relay.power(0, 10));
        Check.dueThrow("cancel", IndexOutOfBoundsException.class, () -> relay.cancel(0));
        Check.due("two changes", 1, relay.undo());
        Check.due("time", 0, relay.state(0));
        Check.due("also one that changed nothing", 0, relay.undo());
        Check.due("no more", -1, relay.undo());
    }

    private static void bufferAndOffsetStay() {
        LampRelay relay = new LampRelay();
        Check.send(relay, 0, 0, "abc");
        Check.feed(relay, "xyz");
        relay.undo();
        Check.due("no message", 0, relay.state(1));
        Check.due("what was appended stands", 0, relay.send(0, 0, 3));
        Check.dueText("letters", "xyz", Check.letters(relay, 0, false));
        relay.undo();
        Check.dueThrow("what was sent does not come back", IllegalArgumentException.class, () -> relay.load(1));
        relay.power(0, 1);
        Check.load(relay, "relay 4 3");
        relay.undo();
        Check.due("offset", 9, relay.errorOffset());
        Check.load(relay, "relay 4 3;");
        relay.undo();
        Check.due("offset", -1, relay.errorOffset());
    }

    private static void undoOfLoad() {
        LampRelay relay = Check.loaded("relay 2 2;channel 0 1 2 3;keeper 1 0 9;mist 0 9 4;message 0 1 abc;");
        relay.pass(30);
        long before = relay.checksum();
        Check.load(relay, "relay 8 9;message 1 1 x;message 1 1 y;");
        relay.pass(3);
        relay.undo();
        Check.due("undo", 2, relay.undo());
        Check.due("checksum", before, relay.checksum());
        Check.due("key", 9, relay.key(1, 0));
        Check.due("mist", 4, relay.mist(9));
        Check.dueText("letters", "abc", Check.letters(relay, 0, false));
    }

    private static void checksumByHand() {
        int[] ofNew = {0, 0, -1, 0, 0, 0, 0, 0, 0, 0, 0, 4, 3, 5, 0, 0, 1, -1, -1, 5, 0, 0, 1, -1, -1};
        Check.due("of a new object", sum(ofNew), new LampRelay().checksum());
        LampRelay relay = Check.loaded("relay 2 1;channel 0 3 0 0;channel 1 5 23 0;mist 1 1 3;mist 3 3 3;"
                + "message 1 4 azx;");
        relay.pass(6);
        int[] due = {6, 1, 0, 0, 0, 0, 6, 0, 2, 0, 2, 2, 1, 3, 0, 0, 1, 1, 1, 5, 23, 0, 0, -1, -1,
            1, 4, 3, 2, 1, 1, 1, 0, 0, -1, 1, 3, 25, 0, -1, 1};
        Check.due("of a message on the way", sum(due), relay.checksum());
    }

    private static long sum(int[] numbers) {
        long sum = 0;
        for (int number : numbers) {
            sum = 31 * sum + number;
        }
        return sum;
    }

    private static void checksumOfTheFace() {
        LampRelay relay = Check.loaded("relay 3 2;channel 0 5 6 18;mist 3 9 5;mist 30 60 9;keeper 0 12 13;"
                + "message 0 3 abcdefghijk;message 1 9 zzzz;message 0 0 lamp;");
        for (int i = 0; i < 40; i++) {
            Check.due("checksum at " + relay.state(0), sumOfTheFace(relay), relay.checksum());
            relay.pass(1 + i % 3);
        }
    }

    static long sumOfTheFace(LampRelay relay) {
        long sum = 0;
        for (int what = 0; what <= 12; what++) {
            sum = 31 * sum + relay.state(what);
        }
        for (int i = 0; i < 12; i++) {
            sum = 31 * sum + relay.channel(i / 6, i % 6);
        }
        for (int message = 0; message < relay.state(1); message++) {
            for (int what = 0; what <= 9; what++) {
                sum = 31 * sum + relay.message(message, what);
            }
            for (int k = 0; k < relay.message(message, 2); k++) {
                sum = 31 * sum + relay.letter(message, k, true);
                sum = 31 * sum + relay.why(message, k);
            }
        }
        return sum;
    }
}
