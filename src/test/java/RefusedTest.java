/**
 * "A method that throws an exception changes nothing", and asking neither: of two relays with the same
 * changes, one gets refused calls and questions between them; their answers stay the same, those that
 * tell of the buffer and of what can be undone, too.
 */
final class RefusedTest {
    private interface Step {
        Object answer(LampRelay relay);
    }

    private final LampRelay quiet = new LampRelay();
    private final LampRelay pestered = new LampRelay();

    private RefusedTest() {
    }

    static void run() {
        new RefusedTest().messages();
        new RefusedTest().mistsAndKeepers();
        new RefusedTest().buffer();
        new RefusedTest().late();
    }

    private void step(String name, Step step) {
        pester(pestered);
        Check.dueText(name, String.valueOf(step.answer(quiet)), String.valueOf(step.answer(pestered)));
        Check.dueText(name + ": view", Check.view(quiet), Check.view(pestered));
    }

    /** Undoes all that can be undone, in both. */
    private void undoAll() {
        for (int i = 0; i < 9; i++) {
            step("undo", LampRelay::undo);
        }
    }

    private static void refused(Check.Call call) {
        try {
            call.answer();
            Check.tell("a call that must be refused was not");
        } catch (IndexOutOfBoundsException | IllegalArgumentException | IllegalStateException
                | java.util.NoSuchElementException e) {
            Check.made++;
        }
    }

    /** Calls that are refused in any state. */
    private static void pester(LampRelay relay) {
        for (int wrong : new int[] {-1, Integer.MIN_VALUE, Integer.MAX_VALUE, 20001}) {
            refused(() -> relay.load(wrong));
            refused(() -> relay.state(wrong));
            refused(() -> relay.channel(wrong, 0));
            refused(() -> relay.channel(0, wrong));
            refused(() -> relay.message(wrong, 0));
            refused(() -> relay.letter(wrong, 0, true));
            refused(() -> relay.why(wrong, 0));
            refused(() -> relay.mist(wrong));
            refused(() -> relay.key(wrong, 0));
            refused(() -> relay.key(0, wrong));
            refused(() -> relay.next(wrong));
            refused(() -> relay.foretold(wrong));
            refused(() -> relay.leastPower(wrong));
            refused(() -> relay.pass(wrong));
            refused(() -> relay.send(wrong, 0, 1));
            refused(() -> relay.send(0, wrong, 1));
            refused(() -> relay.send(0, 0, wrong));
            refused(() -> relay.fog(wrong, 9999, 0));
            refused(() -> relay.fog(0, wrong, 0));
            refused(() -> relay.fog(0, 0, wrong));
            refused(() -> relay.relieve(wrong, 0));
            refused(() -> relay.relieve(0, wrong));
            refused(() -> relay.power(wrong, 0));
            refused(() -> relay.power(0, wrong));
            refused(() -> relay.cancel(wrong));
        }
        refused(() -> relay.pass(0));
        refused(() -> relay.send(0, 0, 0));
        refused(() -> relay.fog(1, 0, 0));
        Check.view(relay);
    }

    private void setup(String text) {
        for (int at = 0; at < text.length(); at += 20) {
            String part = text.substring(at, Math.min(at + 20, text.length()));
            step("append", relay -> Check.feed(relay, part));
        }
        step("load", relay -> relay.load(text.length()));
    }

    private void letters(String text) {
        step("append", relay -> Check.feed(relay, text));
        step("send", relay -> relay.send(1, 3, text.length()));
    }

    private void messages() {
        setup("relay 3 2;mist 3 6 5;mist 9 9 9;message 0 4 abcdefgh;message 1 5 zyx;");
        step("pass", relay -> relay.pass(4));
        for (int i = 2; i < 8; i++) {
            letters("lamp");
            step("pass", relay -> relay.pass(2));
        }
        step("append", relay -> Check.feed(relay, "ninthmessage"));
        refused(() -> pestered.send(0, 0, 5));
        step("cancel", relay -> relay.cancel(7));
        refused(() -> pestered.cancel(7));
        refused(() -> pestered.send(0, 0, 5));
        step("pass", relay -> relay.pass(40));
        refused(() -> pestered.cancel(0));
        undoAll();
        step("what was appended stands", relay -> relay.message(0, 0) + relay.send(0, 0, 12));
    }

    private void mistsAndKeepers() {
        setup("relay 3 2;keeper 0 5 4;message 0 4 abcdefgh;");
        for (int i = 0; i < 12; i++) {
            int first = 2 * i;
            step("fog", relay -> relay.fog(first, first + 1, 5));
        }
        refused(() -> pestered.fog(0, 0, 0));
        for (int i = 0; i < 7; i++) {
            step("relieve", relay -> relay.relieve(0, 3));
            step("pass", relay -> relay.pass(6));
        }
        refused(() -> pestered.relieve(0, 3));
        undoAll();
        step("power", relay -> relay.power(1, 8));
        undoAll();
    }

    private void buffer() {
        step("append", relay -> Check.feed(relay, "relay 4 3;message 0 "));
        step("append", relay -> Check.feed(relay, "0 abc;"));
        for (int i = 2; i < 25; i++) {
            step("append", relay -> Check.feed(relay, " "));
        }
        Check.due("a full buffer", -1, pestered.append(0x61616161, 0, 0, 0, 0));
        refused(() -> pestered.load(501));
        refused(() -> pestered.send(0, 0, 6));
        step("load", relay -> relay.load(500));
        step("append", relay -> Check.feed(relay, "abc"));
        refused(() -> pestered.load(21));
        refused(() -> pestered.send(0, 0, 21));
        refused(() -> pestered.send(0, 0, 4));
        step("send", relay -> relay.send(0, 0, 3));
        refused(() -> pestered.load(1));
        refused(() -> pestered.send(0, 0, 1));
        step("an error", relay -> relay.load(0));
        refused(() -> pestered.load(1));
        step("the offset", LampRelay::errorOffset);
        undoAll();
    }

    private void late() {
        for (int i = 0; i < 100; i++) {
            quiet.pass(100);
            pestered.pass(100);
        }
        refused(() -> pestered.relieve(0, 1));
        refused(() -> pestered.relieve(1, 1));
        step("pass", relay -> relay.pass(100));
        undoAll();
        step("relieve in time", relay -> relay.relieve(0, 1));
    }
}
