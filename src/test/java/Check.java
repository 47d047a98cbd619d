/** What the tests share: feeding texts, comparing answers, counting what is wrong. */
final class Check {
    static int made = 0;
    static int wrong = 0;

    /** A call of the class, whose answer may be wrapped into an object. */
    interface Call {
        Object answer();
    }

    private Check() {
    }

    static void due(String what, long want, long got) {
        made++;
        if (got != want) {
            tell(what + " answered " + got + ", due is " + want);
        }
    }

    static void due(String what, boolean want, boolean got) {
        due(what, want ? 1 : 0, got ? 1 : 0);
    }

    static void dueDouble(String what, double want, double got) {
        made++;
        if (got != want) {
            tell(what + " answered " + got + ", due is " + want);
        }
    }

    static void dueThrow(String what, Class<? extends RuntimeException> want, Call call) {
        made++;
        Class<?> got = thrownBy(call);
        if (got != want) {
            tell(what + " threw " + got + ", due is " + want);
        }
    }

    /** Also that all that can be asked is as before. RefusedTest tells of the buffer and of undo. */
    static void dueThrow(LampRelay relay, String what, Class<? extends RuntimeException> want, Call call) {
        String before = view(relay);
        dueThrow(what, want, call);
        dueText(what + ": all as before", before, view(relay));
    }

    /** All that can be asked, but of keys and mists only some ticks. */
    static String view(LampRelay relay) {
        StringBuilder text = new StringBuilder();
        text.append(relay.checksum()).append(' ').append(relay.errorOffset()).append(' ').append(relay.quality());
        for (int message = 0; message < relay.state(1); message++) {
            text.append(' ').append(letters(relay, message, false));
        }
        text.append(" keys and mists");
        for (int i = 0; i < 60; i++) {
            int tick = i < 40 ? i : i < 50 ? i + 9955 : Math.min(relay.state(0) + i - 50, 20000);
            text.append(' ').append(relay.key(0, tick)).append('/').append(relay.key(1, tick));
            text.append('/').append(relay.mist(tick));
        }
        text.append(" next");
        for (int k = 0; k < relay.state(3); k++) {
            text.append(' ').append(relay.next(k));
        }
        text.append(" foretold ").append(relay.foretold(0)).append(' ').append(relay.foretold(1));
        text.append(' ').append(relay.foretold(2)).append(" least ").append(relay.leastPower(0));
        return text.append(' ').append(relay.leastPower(1)).toString();
    }

    private static Class<?> thrownBy(Call call) {
        try {
            call.answer();
            return null;
        } catch (RuntimeException e) {
            return e.getClass();
        }
    }

    static void tell(String text) {
        wrong++;
        System.out.println(text);
    }

    /** Appends the text, and spaces up to the next multiple of 20 bytes. Returns what append does. */
    static int feed(LampRelay relay, String text) {
        int answer = 0;
        for (int at = 0; at < text.length(); at += 20) {
            answer = relay.append(word(text, at), word(text, at + 4), word(text, at + 8),
                    word(text, at + 12), word(text, at + 16));
        }
        return answer;
    }

    private static int word(String text, int at) {
        int word = 0;
        for (int i = at; i < at + 4; i++) {
            word = (word << 8) | (i < text.length() ? text.charAt(i) & 255 : ' ');
        }
        return word;
    }

    /** Feeds the text into an empty buffer and loads it. */
    static int load(LampRelay relay, String text) {
        feed(relay, text);
        return relay.load(text.length());
    }

    /** A new relay with this setup, which has no error. */
    static LampRelay loaded(String text) {
        LampRelay relay = new LampRelay();
        int answer = load(relay, text);
        if (answer < 0) {
            tell("setup " + text + " has error " + answer + " at " + relay.errorOffset());
        }
        return relay;
    }

    /** Sends these letters, with a buffer that is empty before. */
    static int send(LampRelay relay, int station, int urgency, String letters) {
        feed(relay, letters);
        return relay.send(station, urgency, letters.length());
    }

    static void passAll(LampRelay relay, int ticks) {
        for (int left = ticks; left > 0; left -= 100) {
            relay.pass(Math.min(left, 100));
        }
    }

    /** The letters of a log or of a sender, a dot for an empty place. */
    static String letters(LampRelay relay, int message, boolean isLog) {
        StringBuilder text = new StringBuilder();
        for (int k = 0; k < relay.message(message, 2); k++) {
            int letter = relay.letter(message, k, isLog);
            text.append(letter < 0 ? '.' : (char) ('a' + letter));
        }
        return text.toString();
    }

    /** What why tells of all places of a message, a digit each. */
    static String reasons(LampRelay relay, int message) {
        StringBuilder text = new StringBuilder();
        for (int k = 0; k < relay.message(message, 2); k++) {
            text.append(relay.why(message, k));
        }
        return text.toString();
    }

    static void dueText(String what, String want, String got) {
        made++;
        if (!got.equals(want)) {
            tell(what + " answered " + got + ", due is " + want);
        }
    }
}
