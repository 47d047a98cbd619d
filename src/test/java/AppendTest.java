/** Promise 2: append. */
final class AppendTest {
    private AppendTest() {
    }

    static void run() {
        order();
        fullBuffer();
    }

    private static void order() {
        LampRelay relay = new LampRelay();
        Check.due("first append", 20, relay.append(0x61626364, 0x65666768, 0x696a6b6c, 0x6d6e6f70, 0x71727374));
        Check.due("second append", 40, relay.append(0x75767778, 0x797a2020, 0x20202020, 0x20202020, 0x20202020));
        Check.due("send of what was appended", 0, relay.send(0, 0, 24));
        Check.dueText("letters", "abcdefghijklmnopqrstuvwx", Check.letters(relay, 0, false));
        Check.due("append behind a send", 20, relay.append(0, 0, 0, 0, 0));

        LampRelay negative = new LampRelay();
        negative.append(0xff616161, 0, 0, 0, 0);
        Check.dueThrow("a byte of 255", IllegalArgumentException.class, () -> negative.send(0, 0, 1));
        Check.due("a byte of 255 in a setup", LampRelay.SYNTAX_ERROR, negative.load(4));
        Check.due("its offset", 0, negative.errorOffset());
    }

    private static void fullBuffer() {
        LampRelay relay = new LampRelay();
        String text = "relay 4 3;message 0 0 abc;";
        int length = Check.feed(relay, text);
        for (int want = length + 20; want <= 500; want += 20) {
            Check.due("append", want, relay.append(0x20202020, 0x20202020, 0x20202020, 0x20202020, 0x20202020));
        }
        Check.due("append to a full buffer", -1, relay.append(0x3b3b3b3b, 0, 0, 0, 0));
        Check.due("append to a full buffer again", -1, relay.append(0, 0, 0, 0, 0));
        Check.dueThrow("501 bytes", IllegalArgumentException.class, () -> relay.load(501));
        Check.due("load of the full buffer", 1, relay.load(500));
        Check.due("append to the empty buffer", 20, relay.append(0, 0, 0, 0, 0));
    }
}
