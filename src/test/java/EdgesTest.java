import java.util.NoSuchElementException;

/**
 * Promises 1 to 21: for each parameter the values just inside and just outside of its range, and the
 * greatest ints; for each exception a call that throws it, and which one comes if several apply.
 */
final class EdgesTest {
    private static final Class<IndexOutOfBoundsException> INDEX = IndexOutOfBoundsException.class;
    private static final Class<IllegalArgumentException> ARGUMENT = IllegalArgumentException.class;
    private static final Class<IllegalStateException> STATE = IllegalStateException.class;
    private static final Class<NoSuchElementException> ELEMENT = NoSuchElementException.class;
    private static final String LETTERS = "abcdefghijklmnopqrstuvwx";

    private EdgesTest() {
    }

    private interface OfNumber {
        Object answer(int number);
    }

    static void run() {
        emptyObject();
        append();
        load();
        errorOffset();
        stateAndChannel();
        message();
        letterAndWhy();
        mistAndKey();
        next();
        foretoldAndLeastPower();
        exactlyAThousandTicks();
        quality();
        pass();
        send();
        sendLetters();
        fog();
        relieve();
        power();
        cancel();
    }

    /** Both ends of the range answer, the numbers beyond them and the greatest ints throw. */
    private static void range(LampRelay relay, String what, int least, int greatest,
            Class<? extends RuntimeException> wrong, OfNumber call) {
        for (int number : new int[] {least - 1, greatest + 1, -1, Integer.MIN_VALUE, Integer.MAX_VALUE, least - 256,
            greatest + 256, least + 65536}) {
            if (number < least || number > greatest) {
                Check.dueThrow(relay, what + " " + number, wrong, () -> call.answer(number));
            }
        }
        String before = Check.view(relay);
        for (int number : new int[] {least, greatest}) {
            Check.dueThrow(what + " " + number, null, () -> call.answer(number));
        }
        Check.dueText(what + " asks only", before, Check.view(relay));
    }

    /** As range, for a method that changes: each change is undone. */
    private static void changes(LampRelay relay, String what, int least, int greatest,
            Class<? extends RuntimeException> wrong, OfNumber call) {
        range(relay, what, least, greatest, wrong, number -> {
            call.answer(number);
            return relay.undo();
        });
    }

    private static LampRelay full() {
        LampRelay relay = Check.loaded("relay 2 3;channel 0 7 2 9;channel 1 4 0 0;keeper 0 3 4;keeper 1 0 9;"
                + "mist 0 4 4;mist 9 30 6;message 0 5 abcde;message 1 7 " + LETTERS + ";message 0 7 xyz;");
        relay.pass(7);
        return relay;
    }

    /** A new object has no message, no mist, no keeper and nothing to undo. */
    private static void emptyObject() {
        LampRelay relay = new LampRelay();
        Check.dueThrow(relay, "message 0", INDEX, () -> relay.message(0, 0));
        Check.dueThrow(relay, "letter of 0", INDEX, () -> relay.letter(0, 0, false));
        Check.dueThrow(relay, "why of 0", INDEX, () -> relay.why(0, 0));
        Check.dueThrow(relay, "cancel 0", INDEX, () -> relay.cancel(0));
        Check.dueThrow(relay, "next 0", ELEMENT, () -> relay.next(0));
        Check.dueThrow(relay, "load 1", ARGUMENT, () -> relay.load(1));
        Check.dueThrow(relay, "send 1", ARGUMENT, () -> relay.send(0, 0, 1));
        Check.due("foretold(0)", 0, relay.foretold(0));
        Check.due("foretold(1)", 0, relay.foretold(1));
        Check.due("foretold(2)", 0, relay.foretold(2));
        Check.due("leastPower(0)", 0, relay.leastPower(0));
        Check.due("leastPower(1)", 0, relay.leastPower(1));
        Check.due("errorOffset", -1, relay.errorOffset());
        Check.due("load of no bytes", LampRelay.SYNTAX_ERROR, relay.load(0));
        Check.due("its offset", 0, relay.errorOffset());
        Check.due("undo", -1, relay.undo());
        Check.due("undo again", -1, relay.undo());
        Check.due("pass", 0, relay.pass(1));
        Check.due("undo of it", 0, relay.undo());
    }

    /** "-1 if it would exceed 500 bytes, and the buffer is unchanged then" */
    private static void append() {
        LampRelay relay = new LampRelay();
        String text = "relay 4 3;" + " ".repeat(470);
        Check.due("480 bytes", 480, Check.feed(relay, text));
        Check.due("500 bytes", 500, relay.append(0x20202020, 0x20202020, 0x20202020, 0x20202020, 0x2020203b));
        Check.due("520 bytes", -1, relay.append(-1, Integer.MIN_VALUE, Integer.MAX_VALUE, 0, 1));
        Check.due("520 bytes again", -1, relay.append(0x20202020, 0x20202020, 0x20202020, 0x20202020, 0x20202020));
        Check.due("the last byte", LampRelay.SYNTAX_ERROR, relay.load(500));
        Check.due("is as it was appended", 499, relay.errorOffset());
        Check.due("append behind the load", 20, relay.append(0x6162637a, 0x7f808000, -1, 0, 0));
        Check.due("4 letters", 0, relay.send(0, 0, 4));
        Check.dueText("letters", "abcz", Check.letters(relay, 0, false));
        eachByteOfAnArgument();
    }

    /** "the 4 bytes of each argument, the most significant byte first": a letter among bytes of 255 or 0. */
    private static void eachByteOfAnArgument() {
        for (int place = 0; place < 20; place++) {
            int[] words = {0x61616161, 0x61616161, 0x61616161, 0x61616161, 0x61616161};
            words[place / 4] += ('z' - 'a') << (24 - 8 * (place % 4));
            LampRelay relay = new LampRelay();
            relay.append(words[0], words[1], words[2], words[3], words[4]);
            relay.send(0, 0, 20);
            for (int k = 0; k < 20; k++) {
                Check.due("byte " + k, k == place ? 25 : 0, relay.letter(0, k, false));
            }
        }
        int[] signs = {0, 0x60, 0x7b, 0x80, 0xe1, 0xff};
        for (int sign : signs) {
            LampRelay relay = new LampRelay();
            relay.append(0x61000000 | sign << 16, sign << 24 | 0x616161, 0, 0, 0);
            Check.dueThrow(relay, "byte " + sign, ARGUMENT, () -> relay.send(0, 0, 2));
            Check.due("the letter before it", 0, relay.send(0, 0, 1));
        }
    }

    private static void load() {
        LampRelay relay = full();
        int length = Check.feed(relay, "relay 4 3;");
        for (int wrong : new int[] {-1, length + 1, 500, 501, Integer.MIN_VALUE, Integer.MAX_VALUE, length - 256,
            length + 256}) {
            Check.dueThrow(relay, "load(" + wrong + ")", ARGUMENT, () -> relay.load(wrong));
        }
        Check.due("all of the buffer", 0, relay.load(length));
        Check.dueThrow(relay, "it is empty", ARGUMENT, () -> relay.load(1));
        Check.due("load(0)", LampRelay.SYNTAX_ERROR, relay.load(0));
        Check.feed(relay, "relay 4 3;");
        Check.due("load of the first 9 bytes", LampRelay.SYNTAX_ERROR, relay.load(9));
        Check.dueThrow(relay, "empty behind an error", ARGUMENT, () -> relay.load(1));
        Check.due("a new text begins at 0", 20, Check.feed(relay, "relay 4 3;"));
        Check.due("the first 10 bytes", 0, relay.load(10));
        Check.due("all is replaced", 0, relay.state(1));
        Check.dueText("as a new object", Check.view(new LampRelay()), Check.view(relay));
        for (int messages = 0; messages <= 8; messages++) {
            Check.due("messages", messages, Check.load(relay, "relay 4 3;" + "message 0 0 a;".repeat(messages)));
            Check.due("time", 0, relay.state(0));
            relay.pass(messages + 1);
        }
    }

    /** "by the latest call of load that did not throw; -1 if it found none or if there was no such call" */
    private static void errorOffset() {
        LampRelay relay = new LampRelay();
        Check.dueThrow("no bytes", ARGUMENT, () -> relay.load(1));
        Check.due("no call", -1, relay.errorOffset());
        Check.load(relay, "relay 4 10;");
        Check.due("an error", 8, relay.errorOffset());
        Check.load(relay, "!");
        Check.due("another one", 0, relay.errorOffset());
        Check.dueThrow("-1", ARGUMENT, () -> relay.load(-1));
        Check.due("a call that throws", 0, relay.errorOffset());
        Check.load(relay, "relay 4 3;");
        Check.due("none", -1, relay.errorOffset());
        Check.load(relay, "relay 4 3;x");
        Check.due("an error behind a good text", 10, relay.errorOffset());
    }

    private static void stateAndChannel() {
        LampRelay relay = full();
        range(relay, "state", 0, 12, ARGUMENT, relay::state);
        for (int i = 0; i < 2; i++) {
            int channel = i;
            range(relay, "channel, what", 0, 5, ARGUMENT, what -> relay.channel(channel, what));
        }
        range(relay, "channel", 0, 1, INDEX, channel -> relay.channel(channel, 0));
        range(relay, "channel, 5", 0, 1, INDEX, channel -> relay.channel(channel, 5));
        Check.dueThrow(relay, "channel and what", INDEX, () -> relay.channel(2, 6));
        Check.dueThrow(relay, "channel and what", INDEX, () -> relay.channel(-1, -1));
    }

    private static void message() {
        LampRelay relay = full();
        range(relay, "message", 0, 2, INDEX, message -> relay.message(message, 9));
        range(relay, "what", 0, 9, ARGUMENT, what -> relay.message(2, what));
        Check.dueThrow(relay, "message 7 of 3", INDEX, () -> relay.message(7, 0));
        Check.dueThrow(relay, "message and what", INDEX, () -> relay.message(3, 10));
        Check.dueThrow(relay, "message and what", INDEX, () -> relay.message(-1, -1));
        Check.send(relay, 0, 0, "a");
        Check.due("a fourth", 0, relay.message(3, 0));
        relay.undo();
        Check.dueThrow(relay, "it is undone", INDEX, () -> relay.message(3, 0));
        Check.load(relay, "relay 4 3;message 0 0 a;");
        Check.dueThrow(relay, "it is not loaded", INDEX, () -> relay.message(1, 0));
        Check.load(relay, "relay 4 3;" + "message 0 0 a;".repeat(8));
        range(relay, "message of eight", 0, 7, INDEX, message -> relay.message(message, 0));
    }

    private static void letterAndWhy() {
        LampRelay relay = full();
        int[] lengths = {5, 24, 3};
        for (int i = 0; i < 3; i++) {
            int message = i;
            range(relay, "letter", 0, lengths[i] - 1, ELEMENT, k -> relay.letter(message, k, false));
            range(relay, "log", 0, lengths[i] - 1, ELEMENT, k -> relay.letter(message, k, true));
            range(relay, "why", 0, lengths[i] - 1, ELEMENT, k -> relay.why(message, k));
        }
        range(relay, "letter of", 0, 2, INDEX, message -> relay.letter(message, 0, false));
        range(relay, "log of", 0, 2, INDEX, message -> relay.letter(message, 0, true));
        range(relay, "why of", 0, 2, INDEX, message -> relay.why(message, 0));
        Check.dueThrow(relay, "message and k", INDEX, () -> relay.letter(3, 24, true));
        Check.dueThrow(relay, "message and k", INDEX, () -> relay.letter(-1, -1, false));
        Check.dueThrow(relay, "message and k", INDEX, () -> relay.why(3, -1));
        LampRelay shorter = Check.loaded("relay 4 3;message 0 0 " + LETTERS + ";");
        Check.load(shorter, "relay 4 3;message 0 0 z;");
        range(shorter, "of a shorter message then", 0, 0, ELEMENT, k -> shorter.letter(0, k, false));
        range(shorter, "why of a shorter message then", 0, 0, ELEMENT, k -> shorter.why(0, k));
    }

    private static void mistAndKey() {
        LampRelay relay = full();
        range(relay, "mist", 0, 20000, ARGUMENT, relay::mist);
        range(relay, "key of 0", 0, 20000, ARGUMENT, tick -> relay.key(0, tick));
        range(relay, "key of 1", 0, 20000, ARGUMENT, tick -> relay.key(1, tick));
        range(relay, "station", 0, 1, INDEX, station -> relay.key(station, 3));
        Check.dueThrow(relay, "station and tick", INDEX, () -> relay.key(2, -1));
        Check.dueThrow(relay, "station and tick", INDEX, () -> relay.key(-1, 20001));
    }

    private static void next() {
        LampRelay relay = full();
        range(relay, "next of two", 0, 1, ELEMENT, relay::next);
        relay.cancel(2);
        range(relay, "next of one", 0, 0, ELEMENT, relay::next);
        relay.cancel(0);
        Check.dueThrow(relay, "none waits, but one is on the way", ELEMENT, () -> relay.next(0));
        Check.due("which is not told", 1, relay.state(2));
        LampRelay eight = Check.loaded("relay 4 3;" + "message 0 0 a;".repeat(8));
        range(eight, "next of eight", 0, 7, ELEMENT, eight::next);
    }

    private static void foretoldAndLeastPower() {
        LampRelay relay = full();
        range(relay, "foretold", 0, 2, ARGUMENT, relay::foretold);
        range(relay, "leastPower", 0, 1, INDEX, relay::leastPower);
        for (int level = 0; level <= 9; level++) {
            LampRelay misty = Check.loaded("relay 8 1;channel 0 " + (9 - level) + " 0 0;channel 1 " + level
                    + " 23 0;mist 0 99 " + level + ";message 0 0 abcd;");
            Check.due("leastPower in mist " + level, level == 9 ? -1 : level + 1, misty.leastPower(0));
            Check.due("power stays", 9 - level, misty.channel(0, 0));
            Check.due("foretold(1)", level < 9 - level ? 1 : 0, misty.foretold(1));
        }
        LampRelay none = Check.loaded("relay 8 1;mist 0 99 9;message 0 0 a;");
        Check.due("a message that waits", -1, none.leastPower(0));
        none.cancel(0);
        Check.due("none that waits", 0, none.leastPower(0));
        none.undo();
        none.pass(1);
        Check.due("a message on the way", -1, none.leastPower(0));
        none.pass(50);
        Check.due("none on the way, though it does not agree", 0, none.leastPower(0));
        Check.due("foretold(0) then", 0, none.foretold(0));
    }

    /**
     * Open in hour 3 alone: 22, 11 and 9 ticks of work take 42 of these hours, from tick 27 to tick 1011; that
     * are 1000 ticks from tick 12 on, and one more from tick 11 on.
     */
    private static void exactlyAThousandTicks() {
        LampRelay relay = Check.loaded("relay 8 1;channel 0 5 3 4;channel 1 5 3 4;");
        relay.pass(11);
        Check.send(relay, 0, 2, LETTERS);
        Check.send(relay, 1, 1, LETTERS.substring(0, 16));
        Check.send(relay, 0, 0, LETTERS.substring(0, 6));
        Check.due("1000 are not enough", -1, relay.foretold(0));
        Check.due("two agree behind them", 2, relay.foretold(1));
        Check.due("leastPower(0)", -1, relay.leastPower(0));
        Check.due("leastPower(1)", -1, relay.leastPower(1));
        relay.pass(1);
        Check.due("1000 are enough", 1000, relay.foretold(0));
        Check.due("all agree", 3, relay.foretold(1));
        Check.due("leastPower(0)", 1, relay.leastPower(0));
        Check.due("leastPower(1)", 1, relay.leastPower(1));
        Check.passAll(relay, 999);
        Check.due("two are over", 2, relay.state(4));
        Check.due("one tick is left", 1, relay.foretold(0));
        Check.due("the last one", 1, relay.pass(1));
        Check.due("its end", 1011, relay.message(2, 9));
        Check.due("nothing is left", 0, relay.foretold(0));
    }

    /** "neither lost nor garbled divided by the number of all that were sent; 0.0 if none was sent" */
    private static void quality() {
        LampRelay relay = Check.loaded("relay 8 9;channel 1 5 23 0;mist 3 4 5;mist 5 5 6;message 0 0 " + LETTERS + ";");
        double[] due = {0.0, 1.0, 1.0, 1.0, 3.0 / 4.0, 3.0 / 5.0, 3.0 / 6.0, 4.0 / 7.0, 5.0 / 8.0};
        for (double quality : due) {
            Check.dueDouble("quality at " + relay.state(0), quality, relay.quality());
            relay.pass(1);
        }
        LampRelay lost = Check.loaded("relay 8 1;mist 0 99 9;message 0 0 a;");
        lost.pass(9);
        Check.dueDouble("all lost", 0.0, lost.quality());
        Check.load(lost, "relay 8 1;");
        Check.dueDouble("none sent since the load", 0.0, lost.quality());
    }

    private static void pass() {
        LampRelay relay = full();
        changes(relay, "pass", 1, 100, ARGUMENT, relay::pass);
        Check.dueThrow(relay, "pass(0)", ARGUMENT, () -> relay.pass(0));
        LampRelay eight = Check.loaded("relay 4 1;" + "message 0 0 a;".repeat(8));
        int[] over = {0, 0, 0, 1};
        for (int due : over) {
            Check.due("over in a tick", due, eight.pass(1));
        }
        Check.due("over in two messages' ticks", 2, eight.pass(8));
        Check.due("one tick less", 1, eight.pass(7));
        Check.due("the last four", 4, eight.pass(100));
        Check.due("time", 119, eight.state(0));
    }

    private static void send() {
        LampRelay relay = full();
        Check.feed(relay, LETTERS);
        for (int wrong : new int[] {-1, 2, 256, Integer.MIN_VALUE, Integer.MAX_VALUE}) {
            Check.dueThrow(relay, "station " + wrong, INDEX, () -> relay.send(wrong, 0, 1));
            Check.dueThrow(relay, "station " + wrong + " and all else", INDEX, () -> relay.send(wrong, wrong, 0));
        }
        for (int wrong : new int[] {-1, 10, 256, Integer.MIN_VALUE, Integer.MAX_VALUE}) {
            Check.dueThrow(relay, "urgency " + wrong, ARGUMENT, () -> relay.send(0, wrong, 1));
        }
        for (int wrong : new int[] {-1, 0, 25, 40, 41, 257, 500, 501, Integer.MIN_VALUE, Integer.MAX_VALUE}) {
            Check.dueThrow(relay, "length " + wrong, ARGUMENT, () -> relay.send(1, 9, wrong));
        }
        Check.due("station 1, urgency 9, 24 letters", 3, relay.send(1, 9, 24));
        Check.dueThrow(relay, "the buffer is empty", ARGUMENT, () -> relay.send(1, 9, 1));
        Check.due("urgency", 9, relay.message(3, 1));
        Check.dueText("letters", LETTERS, Check.letters(relay, 3, false));
        Check.feed(relay, "a");
        Check.due("station 0, urgency 0, a letter", 4, relay.send(0, 0, 1));
        Check.due("urgency", 0, relay.message(4, 1));
        Check.due("it is waiting", 0, relay.message(4, 4));
        Check.feed(relay, LETTERS.substring(0, 20));
        Check.dueThrow(relay, "21 of 20", ARGUMENT, () -> relay.send(0, 0, 21));
        Check.due("20 of 20", 5, relay.send(0, 0, 20));
        for (int i = 6; i < 8; i++) {
            Check.due("send", i, Check.send(relay, 0, 0, "z"));
        }
        Check.feed(relay, "z");
        Check.dueThrow(relay, "a ninth", STATE, () -> relay.send(0, 0, 1));
        Check.dueThrow(relay, "a ninth, wrong urgency", ARGUMENT, () -> relay.send(0, 10, 1));
        Check.dueThrow(relay, "a ninth, wrong length", ARGUMENT, () -> relay.send(0, 0, 0));
        Check.dueThrow(relay, "a ninth, wrong letter", ARGUMENT, () -> relay.send(0, 0, 2));
        Check.dueThrow(relay, "a ninth, wrong station", INDEX, () -> relay.send(-1, 0, 1));
        relay.undo();
        Check.due("the buffer stands", 7, relay.send(0, 0, 1));
    }

    /** "or one of these bytes is not a letter a to z": each byte as the first, a middle and the last one. */
    private static void sendLetters() {
        for (int sign = 0; sign < 256; sign++) {
            boolean isLetter = sign >= 'a' && sign <= 'z';
            for (int place = 0; place < 24; place += place == 1 ? 22 : 1) {
                StringBuilder letters = new StringBuilder(LETTERS);
                letters.setCharAt(place, (char) sign);
                LampRelay relay = new LampRelay();
                Check.feed(relay, letters.toString());
                if (isLetter) {
                    Check.due("send", 0, relay.send(0, 0, 24));
                    Check.due("letter", sign - 'a', relay.letter(0, place, false));
                } else {
                    Check.dueThrow("byte " + sign + " at " + place, ARGUMENT, () -> relay.send(0, 0, 24));
                    Check.due("no message", 0, relay.state(1));
                    int letter = Math.max(place, 1);
                    Check.dueThrow("up to it", place == 0 ? ARGUMENT : null, () -> relay.send(0, 0, letter));
                }
            }
        }
    }

    private static void fog() {
        LampRelay relay = full();
        changes(relay, "first", 0, 9999, ARGUMENT, first -> relay.fog(first, 9999, 3));
        changes(relay, "last", 0, 9999, ARGUMENT, last -> relay.fog(0, last, 3));
        changes(relay, "last behind 50", 50, 9999, ARGUMENT, last -> relay.fog(50, last, 3));
        changes(relay, "last behind 9999", 9999, 9999, ARGUMENT, last -> relay.fog(9999, last, 3));
        changes(relay, "level", 0, 9, ARGUMENT, level -> relay.fog(0, 0, level));
        for (int mists = 3; mists <= 12; mists++) {
            Check.due("mists", mists, relay.fog(mists, mists, 9));
            Check.due("mists", mists, relay.state(10));
            Check.due("the new one", 9, relay.mist(mists));
        }
        Check.dueThrow(relay, "a 13th", STATE, () -> relay.fog(0, 0, 0));
        Check.dueThrow(relay, "a 13th, wrong first", ARGUMENT, () -> relay.fog(-1, 0, 0));
        Check.dueThrow(relay, "a 13th, wrong last", ARGUMENT, () -> relay.fog(1, 0, 0));
        Check.dueThrow(relay, "a 13th, wrong level", ARGUMENT, () -> relay.fog(0, 0, 10));
    }

    private static void relieve() {
        LampRelay relay = full();
        changes(relay, "station", 0, 1, INDEX, station -> relay.relieve(station, 3));
        changes(relay, "key", 0, 25, ARGUMENT, key -> relay.relieve(1, key));
        Check.dueThrow(relay, "station and key", INDEX, () -> relay.relieve(2, 26));
        Check.dueThrow(relay, "station and key", INDEX, () -> relay.relieve(-1, -1));
        Check.due("keeper of 0 before", 4, relay.relieve(0, 25));
        Check.due("keeper of 1 before", 9, relay.relieve(1, 0));
        Check.due("in his place", 25, relay.relieve(0, 0));
        for (int i = 3; i <= 8; i++) {
            relay.pass(1);
            Check.due("the key before", i - 3, relay.relieve(0, i - 2));
        }
        Check.due("one of the eight", 6, relay.relieve(0, 11));
        relay.pass(1);
        Check.dueThrow(relay, "a ninth", STATE, () -> relay.relieve(0, 0));
        Check.dueThrow(relay, "a ninth, wrong key", ARGUMENT, () -> relay.relieve(0, 26));
        Check.dueThrow(relay, "a ninth, wrong station", INDEX, () -> relay.relieve(2, 0));
        Check.due("the other station", 0, relay.relieve(1, 1));
        lateKeepers();
    }

    /** "8 keepers (those who come later count, too), none of whom comes at this tick", or a time beyond 9999. */
    private static void lateKeepers() {
        StringBuilder text = new StringBuilder("relay 4 3;");
        for (int i = 9992; i < 10000; i++) {
            text.append("keeper 1 ").append(i).append(" ").append(i - 9990).append(";");
        }
        LampRelay relay = Check.loaded(text.toString());
        Check.dueThrow(relay, "eight who come later", STATE, () -> relay.relieve(1, 3));
        Check.due("none of the other station", 0, relay.relieve(0, 3));
        Check.passAll(relay, 9998);
        Check.due("at 9998", 8, relay.relieve(1, 20));
        relay.pass(1);
        Check.due("at 9999, the eighth", 9, relay.relieve(1, 21));
        Check.due("key", 21, relay.key(1, 9999));
        Check.due("key of the tick before", 20, relay.key(1, 9998));
        Check.due("the other station at 9999", 3, relay.relieve(0, 4));
        relay.pass(1);
        Check.dueThrow(relay, "at 10000", STATE, () -> relay.relieve(1, 3));
        Check.dueThrow(relay, "at 10000, two keepers", STATE, () -> relay.relieve(0, 3));
        Check.dueThrow(relay, "at 10000, wrong key", ARGUMENT, () -> relay.relieve(0, 26));
        Check.dueThrow(relay, "at 10000, wrong station", INDEX, () -> relay.relieve(2, 3));
    }

    private static void power() {
        LampRelay relay = full();
        changes(relay, "channel", 0, 1, INDEX, channel -> relay.power(channel, 9));
        changes(relay, "power of 0", 0, 9, ARGUMENT, power -> relay.power(0, power));
        changes(relay, "power of 1", 0, 9, ARGUMENT, power -> relay.power(1, power));
        Check.dueThrow(relay, "channel and power", INDEX, () -> relay.power(2, 10));
        Check.dueThrow(relay, "channel and power", INDEX, () -> relay.power(-1, -1));
        int before = 4;
        for (int power = 0; power <= 9; power++) {
            Check.due("the power before", before, relay.power(1, power));
            Check.due("the power", power, relay.channel(1, 0));
            Check.due("the other power", 7, relay.channel(0, 0));
            before = power;
        }
    }

    private static void cancel() {
        LampRelay relay = full();
        changes(relay, "message", 0, 2, INDEX, relay::cancel);
        Check.due("on the way", true, relay.cancel(1));
        Check.due("waiting", false, relay.cancel(0));
        Check.dueThrow(relay, "cancelled on the way", STATE, () -> relay.cancel(1));
        Check.dueThrow(relay, "cancelled waiting", STATE, () -> relay.cancel(0));
        Check.dueThrow(relay, "no message 3", INDEX, () -> relay.cancel(3));
        Check.due("another one starts", 0, relay.pass(1));
        Check.due("when the next tick begins", 2, relay.state(2));
        Check.due("its start", 7, relay.message(2, 8));
        relay.pass(100);
        Check.due("it is over", 2, relay.message(2, 4));
        Check.dueThrow(relay, "over", STATE, () -> relay.cancel(2));
        Check.due("messages stay", 3, relay.state(1));
        countersBehindCancel();
    }

    /** Frames that were given up "(of any message)", and symbols, stay counted if their message is cancelled. */
    private static void countersBehindCancel() {
        LampRelay relay = Check.loaded("relay 1 1;channel 1 5 23 0;mist 1 1 9;mist 4 4 5;mist 9 9 9;"
                + "message 0 2 abc;message 0 1 d;");
        relay.pass(7);
        Check.due("on the way", true, relay.cancel(0));
        relay.pass(4);
        int[] due = {11, 2, -1, 0, 1, 0, 11, 2, 1, 2, 3, 1, 1};
        for (int what = 0; what < due.length; what++) {
            Check.due("state(" + what + ")", due[what], relay.state(what));
        }
        Check.dueText("reasons of the cancelled one", "211", Check.reasons(relay, 0));
        Check.due("its tries", 1, relay.message(0, 7));
        Check.due("its start", 0, relay.message(0, 8));
        Check.due("its end", 7, relay.message(0, 9));
    }
}
