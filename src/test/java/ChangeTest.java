/** Promises 17 to 21: send, fog, relieve, power and cancel. */
final class ChangeTest {
    private ChangeTest() {
    }

    static void run() {
        send();
        sendThrows();
        sendTooMany();
        fog();
        fogTooMany();
        relieve();
        relieveTooMany();
        relieveTooLate();
        power();
        cancel();
        cancelWaiting();
    }

    private static void send() {
        LampRelay relay = new LampRelay();
        Check.due("send", 0, Check.send(relay, 1, 7, "hello"));
        Check.dueText("letters", "hello", Check.letters(relay, 0, false));
        Check.dueText("log", ".....", Check.letters(relay, 0, true));
        int[] due = {1, 7, 5, 2, 0, 5, 0, 0, -1, -1};
        for (int what = 0; what < due.length; what++) {
            Check.due("message(0, " + what + ")", due[what], relay.message(0, what));
        }
        Check.due("waiting", 1, relay.state(3));
        Check.dueThrow("the buffer is empty", IllegalArgumentException.class, () -> relay.load(1));
        relay.pass(3);
        Check.feed(relay, "abcdefghijklmnopqrstuvwxyz");
        Check.due("24 letters of a longer buffer", 1, relay.send(0, 0, 24));
        Check.dueText("letters", "abcdefghijklmnopqrstuvwx", Check.letters(relay, 1, false));
        Check.due("the first is still on the way", 0, relay.state(2));
        Check.due("the second waits", 0, relay.message(1, 4));
        Check.due("over", 2, relay.pass(100));
        Check.due("agree", 2, relay.state(5));
        Check.feed(relay, "abcdefghijklmnopqrst");
        Check.due("all of the buffer", 2, relay.send(0, 0, 20));
        sendInThePlaceOfOneThatWasUndone();
    }

    private static void sendInThePlaceOfOneThatWasUndone() {
        LampRelay relay = new LampRelay();
        Check.send(relay, 0, 4, "abcdefghij");
        relay.fog(0, 30, 9);
        relay.pass(22);
        relay.fog(22, 22, 5);
        relay.pass(5);
        for (int i = 0; i < 5; i++) {
            relay.undo();
        }
        Check.due("send again", 0, Check.send(relay, 1, 0, "abcdefghijk"));
        int[] due = {1, 0, 11, 3, 0, 11, 0, 0, -1, -1};
        for (int what = 0; what < due.length; what++) {
            Check.due("sent again: message(0, " + what + ")", due[what], relay.message(0, what));
        }
        Check.due("over", 1, relay.pass(20));
        Check.due("tries", 0, relay.message(0, 7));
        Check.due("agree", 1, relay.state(5));
    }

    private static void sendThrows() {
        LampRelay relay = new LampRelay();
        Check.feed(relay, "abc{`zyxwvutsrqponmlkjihgfedcba");
        Check.dueThrow(relay, "station -1", IndexOutOfBoundsException.class, () -> relay.send(-1, 0, 1));
        Check.dueThrow(relay, "station 2", IndexOutOfBoundsException.class, () -> relay.send(2, 10, 99));
        Check.dueThrow(relay, "urgency -1", IllegalArgumentException.class, () -> relay.send(0, -1, 1));
        Check.dueThrow(relay, "urgency 10", IllegalArgumentException.class, () -> relay.send(1, 10, 1));
        Check.dueThrow(relay, "length 0", IllegalArgumentException.class, () -> relay.send(0, 0, 0));
        Check.dueThrow(relay, "length -1", IllegalArgumentException.class, () -> relay.send(0, 0, -1));
        Check.dueThrow(relay, "byte {", IllegalArgumentException.class, () -> relay.send(0, 0, 4));
        Check.dueThrow(relay, "length 25", IllegalArgumentException.class, () -> relay.send(0, 0, 25));
        Check.dueThrow(relay, "most", IllegalArgumentException.class, () -> relay.send(0, 0, Integer.MAX_VALUE));
        Check.due("the buffer stands", 0, relay.send(0, 9, 3));
        Check.feed(relay, "`bc");
        Check.dueThrow(relay, "byte `", IllegalArgumentException.class, () -> relay.send(0, 0, 1));
        Check.dueThrow(relay, "more than the buffer", IllegalArgumentException.class, () -> relay.send(0, 0, 21));
        relay.load(0);
        Check.feed(relay, "abcdefghijklmnopqrst");
        Check.dueThrow(relay, "more than the buffer", IllegalArgumentException.class, () -> relay.send(0, 0, 21));
        relay.append(0x75767778, 0x797a2020, 0, 0, 0);
        Check.dueThrow(relay, "25 letters", IllegalArgumentException.class, () -> relay.send(0, 0, 25));
        Check.due("the buffer stands", 1, relay.send(0, 0, 24));
    }

    private static void sendTooMany() {
        LampRelay relay = Check.loaded("relay 8 1;message 0 0 a;message 0 0 b;");
        for (int i = 2; i < 8; i++) {
            Check.due("send", i, Check.send(relay, i % 2, i, "c"));
        }
        relay.cancel(0);
        relay.pass(10);
        Check.feed(relay, "relay 4 3;message 0 0 z;");
        Check.dueThrow(relay, "a ninth", IllegalStateException.class, () -> relay.send(0, 0, 5));
        Check.dueThrow(relay, "a ninth of a wrong station", IndexOutOfBoundsException.class,
                () -> relay.send(2, 0, 5));
        Check.dueThrow(relay, "a ninth of wrong letters", IllegalArgumentException.class, () -> relay.send(0, 0, 6));
        Check.due("the buffer stands", 1, relay.load(40));
    }

    private static void fog() {
        LampRelay relay = new LampRelay();
        Check.due("fog", 1, relay.fog(0, 9999, 4));
        Check.due("fog", 2, relay.fog(3, 5, 9));
        Check.due("fog", 3, relay.fog(5, 5, 0));
        int[] due = {4, 4, 4, 9, 9, 0, 4};
        for (int tick = 0; tick < due.length; tick++) {
            Check.due("mist(" + tick + ")", due[tick], relay.mist(tick));
        }
        Check.due("mists", 3, relay.state(10));
        Check.dueThrow(relay, "first -1", IllegalArgumentException.class, () -> relay.fog(-1, 0, 0));
        Check.dueThrow(relay, "first 10000", IllegalArgumentException.class, () -> relay.fog(10000, 10000, 0));
        Check.dueThrow(relay, "last before first", IllegalArgumentException.class, () -> relay.fog(5, 4, 0));
        Check.dueThrow(relay, "last 10000", IllegalArgumentException.class, () -> relay.fog(5, 10000, 0));
        Check.dueThrow(relay, "level -1", IllegalArgumentException.class, () -> relay.fog(0, 0, -1));
        Check.dueThrow(relay, "level 10", IllegalArgumentException.class, () -> relay.fog(0, 0, 10));
        Check.due("mist(0) as before", 4, relay.mist(0));
        Check.due("the last tick", 4, relay.fog(9999, 9999, 9));
        Check.due("mist(9999)", 9, relay.mist(9999));
    }

    private static void fogTooMany() {
        LampRelay relay = Check.loaded("relay 4 3;mist 0 0 1;mist 0 0 2;");
        for (int count = 3; count <= 12; count++) {
            Check.due("fog", count, relay.fog(0, count, count % 10));
        }
        Check.dueThrow(relay, "a 13th", IllegalStateException.class, () -> relay.fog(0, 0, 9));
        Check.dueThrow(relay, "a 13th of a wrong level", IllegalArgumentException.class, () -> relay.fog(0, 0, 10));
        Check.due("the 12th counts", 2, relay.mist(0));
        relay.undo();
        Check.due("a 12th again", 12, relay.fog(0, 0, 9));
        Check.due("mist", 9, relay.mist(0));
    }

    private static void relieve() {
        LampRelay relay = Check.loaded("relay 4 3;keeper 0 2 11;keeper 0 9 12;");
        Check.due("before the first", 0, relay.relieve(0, 3));
        Check.due("at the same tick", 3, relay.relieve(0, 25));
        Check.due("key", 25, relay.key(0, 1));
        relay.pass(2);
        Check.due("in the place of a keeper that was told", 11, relay.relieve(0, 0));
        Check.due("key", 0, relay.key(0, 2));
        relay.pass(1);
        Check.due("of the one who is on duty", 0, relay.relieve(0, 5));
        Check.due("key then", 5, relay.key(0, 8));
        Check.due("a later one comes", 12, relay.key(0, 9));
        Check.due("the other station", 0, relay.key(1, 3));
        Check.due("the other station", 0, relay.relieve(1, 8));
        Check.due("the other station", 8, relay.key(1, 3));
        Check.dueThrow(relay, "station 2", IndexOutOfBoundsException.class, () -> relay.relieve(2, 26));
        Check.dueThrow(relay, "station -1", IndexOutOfBoundsException.class, () -> relay.relieve(-1, 0));
        Check.dueThrow(relay, "key -1", IllegalArgumentException.class, () -> relay.relieve(0, -1));
        Check.dueThrow(relay, "key 26", IllegalArgumentException.class, () -> relay.relieve(1, 26));
    }

    private static void relieveTooMany() {
        LampRelay relay = Check.loaded("relay 4 3;keeper 0 90 1;keeper 0 91 2;keeper 0 92 3;keeper 0 93 4;"
                + "keeper 0 94 5;keeper 0 95 6;keeper 0 96 7;");
        Check.due("the eighth", 0, relay.relieve(0, 9));
        Check.due("in its place", 9, relay.relieve(0, 10));
        relay.pass(1);
        Check.dueThrow(relay, "a ninth", IllegalStateException.class, () -> relay.relieve(0, 11));
        Check.dueThrow(relay, "a ninth of a wrong key", IllegalArgumentException.class, () -> relay.relieve(0, 26));
        Check.due("the other station", 0, relay.relieve(1, 11));
        relay.pass(92);
        Check.due("in the place of one of eight", 4, relay.relieve(0, 20));
        Check.due("key", 20, relay.key(0, 93));
        Check.due("the next one", 5, relay.key(0, 94));
    }

    private static void relieveTooLate() {
        LampRelay relay = new LampRelay();
        Check.passAll(relay, 9999);
        Check.due("at 9999", 0, relay.relieve(0, 6));
        relay.pass(1);
        Check.dueThrow(relay, "at 10000", IllegalStateException.class, () -> relay.relieve(0, 7));
        Check.dueThrow(relay, "at 10000, wrong key", IllegalArgumentException.class, () -> relay.relieve(0, -1));
        Check.due("key", 6, relay.key(0, 10000));
        relay.undo();
        Check.due("at 9999 again", 6, relay.relieve(0, 8));
    }

    private static void power() {
        LampRelay relay = new LampRelay();
        Check.due("power", 5, relay.power(0, 9));
        Check.due("power", 9, relay.power(0, 0));
        Check.due("power of the other", 5, relay.power(1, 3));
        Check.due("channel 0", 0, relay.channel(0, 0));
        Check.due("channel 1", 3, relay.channel(1, 0));
        Check.dueThrow(relay, "channel 2", IndexOutOfBoundsException.class, () -> relay.power(2, 10));
        Check.dueThrow(relay, "channel -1", IndexOutOfBoundsException.class, () -> relay.power(-1, 0));
        Check.dueThrow(relay, "power 10", IllegalArgumentException.class, () -> relay.power(0, 10));
        Check.dueThrow(relay, "power -1", IllegalArgumentException.class, () -> relay.power(1, -1));
    }

    private static void cancel() {
        LampRelay relay = Check.loaded("relay 2 3;message 0 3 abcde;message 1 2 fg;message 0 1 h;");
        relay.pass(3);
        Check.due("on the way", true, relay.cancel(0));
        Check.due("no message is on the way", -1, relay.state(2));
        Check.due("it is not over", 0, relay.state(4));
        for (int channel = 0; channel < 2; channel++) {
            Check.due("idle", -1, relay.channel(channel, 4));
            Check.due("idle", -1, relay.channel(channel, 5));
        }
        Check.due("what it is", 3, relay.message(0, 4));
        Check.due("when", 3, relay.message(0, 9));
        Check.dueThrow(relay, "again", IllegalStateException.class, () -> relay.cancel(0));
        Check.due("the others end", 2, relay.pass(20));
        Check.due("the next one starts at once", 3, relay.message(1, 8));
        Check.due("channel 0 begins anew", 7, relay.message(1, 9));
        Check.due("it stays", 3, relay.message(0, 4));
        Check.dueText("its log", ".....", Check.letters(relay, 0, true));
        Check.due("agree", 2, relay.state(5));
        Check.dueThrow(relay, "over", IllegalStateException.class, () -> relay.cancel(1));
        Check.dueThrow(relay, "none", IndexOutOfBoundsException.class, () -> relay.cancel(3));
        Check.dueThrow(relay, "none", IndexOutOfBoundsException.class, () -> relay.cancel(-1));
    }

    private static void cancelWaiting() {
        LampRelay relay = Check.loaded("relay 2 3;message 0 3 abcde;message 1 2 fg;");
        relay.pass(2);
        Check.due("waiting", false, relay.cancel(1));
        Check.due("the other is on the way", 0, relay.state(2));
        Check.due("channel 0 works", 0, relay.channel(0, 4));
        Check.due("its step", 2, relay.channel(0, 5));
        Check.due("none waits", 0, relay.state(3));
        Check.due("it did not start", -1, relay.message(1, 8));
        Check.due("when", 2, relay.message(1, 9));
        Check.due("one becomes over", 1, relay.pass(50));
    }
}
