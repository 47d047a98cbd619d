/** Promises 13 and 14: foretold and leastPower. */
final class ForesightTest {
    private static final String ALONE = "channel 0 3 0 0;channel 1 5 23 0;";
    private static final String LONG = "abcdefghijklmnopqrstuvwx";

    private ForesightTest() {
    }

    static void run() {
        foretold();
        foretoldCountsOnlyWhatComes();
        exactlyAThousand();
        moreThanAThousand();
        leastPower();
        leastPowerOfWhatIsOnTheWay();
        leastPowerThatIsNotEnough();
        leastPowerIsNotMonotonic();
    }

    private static void due(String name, LampRelay relay, int ticks, int agree, int givenUp) {
        long before = relay.checksum();
        Check.due(name + ": foretold(0)", ticks, relay.foretold(0));
        Check.due(name + ": foretold(1)", agree, relay.foretold(1));
        Check.due(name + ": foretold(2)", givenUp, relay.foretold(2));
        Check.due(name + ": unchanged", before, relay.checksum());
    }

    private static void foretold() {
        LampRelay relay = Check.loaded("relay 4 2;" + ALONE + "mist 0 6 9;mist 14 99 9;"
                + "message 0 5 abcd;message 0 4 ef;");
        due("two messages", relay, 24, 1, 1);
        Check.dueThrow(relay, "foretold(-1)", IllegalArgumentException.class, () -> relay.foretold(-1));
        Check.dueThrow(relay, "foretold(3)", IllegalArgumentException.class, () -> relay.foretold(3));
        due("nothing to do", new LampRelay(), 0, 0, 0);
        due("closed at first", Check.loaded("relay 4 2;channel 0 5 7 8;channel 1 5 8 7;message 0 0 a;"), 4, 1, 0);
    }

    private static void foretoldCountsOnlyWhatComes() {
        LampRelay relay = Check.loaded("relay 4 1;" + ALONE + "mist 5 5 9;mist 12 12 9;"
                + "message 0 5 a;message 0 4 bc;message 1 3 de;message 0 2 fg;");
        due("at first", relay, 19, 2, 2);
        relay.pass(10);
        due("later", relay, 9, 2, 1);
        relay.pass(9);
        due("at last", relay, 0, 2, 0);
        Check.send(relay, 0, 0, "a");
        relay.cancel(4);
        due("a cancelled message", relay, 0, 2, 0);
    }

    /** Two channels on which all is lost: 50 rounds of 5 tries with 4 ticks. */
    private static LampRelay thousand() {
        LampRelay relay = Check.loaded("relay 1 5;mist 0 9999 9;");
        for (int i = 0; i < 4; i++) {
            Check.send(relay, 0, 0, LONG);
        }
        Check.send(relay, 0, 0, "abcd");
        return relay;
    }

    /**
     * 7 tries of each frame. The frames of 4 letters are in work two by two, 7 * 7 ticks; a last one alone
     * is taken by channel 1 in the tick in which channel 0 fails with it, which saves 3 ticks in 7 tries:
     * 98 + (98 + 25) for 17 letters, and six times 98 + 32 for 18 letters.
     */
    private static LampRelay thousandAndOne() {
        LampRelay relay = Check.loaded("relay 4 7;mist 0 9999 9;");
        Check.send(relay, 0, 0, LONG.substring(0, 16));
        Check.send(relay, 0, 0, LONG.substring(0, 17));
        for (int i = 0; i < 6; i++) {
            Check.send(relay, 0, 0, LONG.substring(0, 18));
        }
        return relay;
    }

    private static void exactlyAThousand() {
        LampRelay relay = thousand();
        due("a thousand", relay, 1000, 0, 100);
        Check.passAll(relay, 1000);
        Check.due("all are over", 5, relay.state(4));
        Check.due("the last end", 999, relay.message(4, 9));
    }

    private static void moreThanAThousand() {
        LampRelay relay = thousandAndOne();
        due("one more than a thousand", relay, -1, 0, 38);
        relay.pass(1);
        due("a tick later", relay, 1000, 0, 39);

        LampRelay half = thousand();
        half.fog(0, 79, 0);
        Check.send(half, 0, 9, "a");
        Check.send(half, 0, 0, LONG);
        due("two agree, the third has 10 frames to give up", half, 940, 2, 86);
        Check.send(half, 0, 0, LONG);
        due("one more message, not enough", half, -1, 2, 92);
    }

    private static void leastPower() {
        LampRelay relay = Check.loaded("relay 8 1;channel 1 5 23 0;mist 0 9999 6;message 0 0 abc;");
        Check.due("one above the mist", 7, relay.leastPower(0));
        Check.due("the other channel does not help", -1, relay.leastPower(1));
        relay.power(0, 9);
        Check.due("whatever the power is now", 7, relay.leastPower(0));
        Check.due("the other channel is not needed", 0, relay.leastPower(1));
        Check.due("power stays", 9, relay.channel(0, 0));
        Check.dueThrow(relay, "leastPower(2)", IndexOutOfBoundsException.class, () -> relay.leastPower(2));
        Check.dueThrow(relay, "leastPower(-1)", IndexOutOfBoundsException.class, () -> relay.leastPower(-1));
        relay.fog(0, 9999, 9);
        Check.due("too much mist", -1, relay.leastPower(0));
        Check.due("no message", 0, new LampRelay().leastPower(1));
        LampRelay clear = Check.loaded("relay 8 1;channel 1 5 23 0;message 0 0 abc;");
        Check.due("without mist power 0 garbles", 1, clear.leastPower(0));
        LampRelay tries = Check.loaded("relay 8 2;channel 1 5 23 0;mist 0 5 8;message 0 0 abc;");
        Check.due("a second try helps", 1, tries.leastPower(0));
    }

    private static void leastPowerOfWhatIsOnTheWay() {
        LampRelay relay = Check.loaded("relay 8 1;" + ALONE + "mist 0 9999 3;message 0 1 abc;message 0 0 de;");
        relay.pass(6);
        Check.due("the first is over and does not agree", 0, relay.state(4) == 1 ? relay.state(5) : -1);
        Check.due("only the other counts", 4, relay.leastPower(0));
        relay.pass(1);
        Check.due("a symbol is garbled already", -1, relay.leastPower(0));
        relay.cancel(1);
        Check.due("nothing is left", 0, relay.leastPower(0));
    }

    private static void leastPowerThatIsNotEnough() {
        LampRelay relay = Check.loaded("relay 1 9;channel 0 5 3 4;channel 1 5 3 4;");
        for (int i = 0; i < 2; i++) {
            Check.send(relay, 0, 0, "abcdefghij");
        }
        Check.due("20 frames in 40 days", 1, relay.leastPower(0));
        Check.send(relay, 0, 0, "abc");
        Check.due("23 frames need more than 1000 ticks", -1, relay.leastPower(0));
        Check.due("also foretold", -1, relay.foretold(0));
    }

    /** With little power the frame is lost while the mist is dense; a garbled one spoils the log. */
    private static void leastPowerIsNotMonotonic() {
        LampRelay relay = Check.loaded("relay 4 2;channel 0 5 0 0;channel 1 5 23 0;mist 1 1 5;mist 5 5 5;"
                + "message 0 0 abcd;");
        Check.due("lost at power 1 and tried again", 1, relay.leastPower(0));
        Check.due("garbled with the present power", 0, relay.foretold(1));
        relay.fog(0, 13, 0);
        relay.fog(1, 1, 1);
        relay.fog(5, 5, 1);
        Check.due("garbled at power 1, right at power 2", 2, relay.leastPower(0));
    }
}
