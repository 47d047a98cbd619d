/** How LampRelay is used. README.md shows this file and what it prints; ReadmeTest compares them. */
public final class Example {
    public static void main(String[] args) {
        LampRelay relay = new LampRelay();
        String setup = "relay 3 2; channel 1 9 20 8; keeper 0 0 4; keeper 1 0 4; mist 2 40 5; message 0 7 lantern;";
        put(relay, setup);
        int messages = relay.load(setup.length());
        if (messages < 0) {
            System.out.println("error " + messages + " at byte " + relay.errorOffset());
            return;
        }
        System.out.println(messages + " message, " + relay.foretold(1) + " would agree");
        int least = relay.leastPower(0);
        if (least >= 0) {
            relay.power(0, least);
        }
        System.out.println("with power " + relay.channel(0, 0) + ": " + relay.foretold(1) + " would agree");
        int over = relay.pass(10);
        System.out.println("over in 10 ticks: " + over + ", log: " + log(relay, 0));
        put(relay, "fog");
        int sent = relay.send(1, 9, 3);
        System.out.println("message " + sent + " is served next: " + relay.next(0));
        System.out.println("after undo " + relay.undo() + " changes are left, messages: " + relay.state(1));
    }

    /** Appends the text, filled up with spaces: append takes 20 bytes at a time. */
    private static void put(LampRelay relay, String text) {
        for (int at = 0; at < text.length(); at += 20) {
            int[] words = new int[5];
            for (int i = 0; i < 20; i++) {
                char sign = at + i < text.length() ? text.charAt(at + i) : ' ';
                words[i / 4] = words[i / 4] << 8 | sign;
            }
            relay.append(words[0], words[1], words[2], words[3], words[4]);
        }
    }

    /** The log of the receiver, with a dot for an empty place. */
    private static String log(LampRelay relay, int message) {
        StringBuilder text = new StringBuilder();
        for (int k = 0; k < relay.message(message, 2); k++) {
            int letter = relay.letter(message, k, true);
            text.append(letter < 0 ? '.' : (char) ('a' + letter));
        }
        return text.toString();
    }
}
