import java.util.Random;

/**
 * Runs of 512 calls with arguments in and out of range, always the same ones, on LampRelay and on the
 * Model; each answer, each exception and, behind every fourth call, all that can be asked must be the same.
 * Asking goes on beyond the 512 calls that are promised, as LampRelay keeps no count of them.
 */
final class ModelTest {
    /** More of them with java -Druns=1000. */
    private static final int RUNS = Integer.getInteger("runs", 12);
    private static final int CALLS = 512;
    private static final String LETTERS = "abcdefghijklmnopqrstuvwxyz";

    private final int seed;
    private final Random random;
    private final LampRelay relay = new LampRelay();
    private final Model model = new Model();

    private interface Answer {
        Object give();
    }

    private ModelTest(int seed) {
        this.seed = seed;
        this.random = new Random(seed);
    }

    static void run() {
        for (int seed = 0; seed < RUNS; seed++) {
            ModelTest test = new ModelTest(seed);
            for (int calls = 0; calls < CALLS; calls++) {
                test.call();
                if (calls % 4 == 0) {
                    test.compareAll();
                }
            }
        }
    }

    private int below(int bound) {
        return random.nextInt(bound);
    }

    /** From least to greatest, seldom just beyond, more seldom far beyond. */
    private int within(int least, int greatest) {
        int kind = below(60);
        if (kind == 0) {
            return below(2) == 0 ? least - 1 : greatest + 1;
        }
        if (kind == 1) {
            return new int[] {Integer.MIN_VALUE, Integer.MAX_VALUE, -1, 256}[below(4)];
        }
        return kind < 8 ? (kind < 5 ? least : greatest) : least + below(greatest - least + 1);
    }

    private void same(String call, Answer asked, Answer due) {
        String want = told(due);
        String got = told(asked);
        Check.made++;
        if (!got.equals(want)) {
            Check.tell("run " + seed + ": " + call + " answered " + got + ", the model " + want);
        }
    }

    private static String told(Answer answer) {
        try {
            return String.valueOf(answer.give());
        } catch (RuntimeException e) {
            return e.getClass().getName();
        }
    }

    private void call() {
        switch (below(14)) {
            case 0 -> setup();
            case 1, 2 -> letters();
            case 3, 4 -> fog();
            case 5 -> relieve();
            case 6 -> power();
            case 7 -> cancel();
            case 8 -> undo(1 + below(10) / 9 * 9);
            case 9 -> append(LETTERS.substring(below(6)));
            default -> pass();
        }
    }

    private void append(String text) {
        for (int at = 0; at < text.length(); at += 20) {
            int[] words = new int[5];
            for (int i = 0; i < 20; i++) {
                int sign = at + i < text.length() ? text.charAt(at + i) : ' ';
                words[i / 4] = words[i / 4] << 8 | sign;
            }
            same("append", () -> relay.append(words[0], words[1], words[2], words[3], words[4]),
                    () -> model.append(words));
        }
    }

    private void setup() {
        if (below(3) > 0) {
            same("load(0)", () -> relay.load(0), () -> model.load(0));
            compareAll();
        }
        String text = text();
        append(text);
        int length = below(4) == 0 ? within(0, 500) : text.length();
        same("load(" + length + ") of '" + text + "'", () -> relay.load(length), () -> model.load(length));
        same("errorOffset", relay::errorOffset, model::errorOffset);
    }

    private String text() {
        StringBuilder text = new StringBuilder("relay " + within(1, 8) + " " + within(1, 9) + ";");
        int many = below(12) == 0 ? 4 : 1;
        for (int i = below(10 * many); i > 0; i--) {
            text.append(statement()).append(spaces()).append(";").append(spaces());
        }
        if (below(4) == 0) {
            int at = below(text.length());
            text.setCharAt(at, " ;0a9z\t{`/:,\u00e1A".charAt(below(14)));
        }
        return text.length() > 500 ? text.substring(0, 500) : text.toString();
    }

    private String statement() {
        return switch (below(6)) {
            case 0 -> "channel" + numbers(within(0, 1), within(0, 9), within(0, 23), within(0, 23));
            case 1, 2 -> "keeper" + numbers(within(0, 1), below(4) == 0 ? within(0, 9999) : below(12), within(0, 25));
            case 3 -> {
                int first = below(4) == 0 ? within(0, 9999) : below(60);
                yield "mist" + numbers(first, first + below(9) - below(2), within(0, 9));
            }
            default -> "message" + numbers(within(0, 1), within(0, 9)) + spaces() + word();
        };
    }

    private String numbers(int... numbers) {
        StringBuilder text = new StringBuilder();
        for (int number : numbers) {
            text.append(text.length() == 0 ? spaces() : " ").append("00".substring(below(3))).append(number);
        }
        return text.toString();
    }

    private String spaces() {
        return "   ".substring(below(8) == 0 ? below(3) : 3);
    }

    private String word() {
        StringBuilder word = new StringBuilder();
        for (int i = within(1, 24); i > 0 && i < 30; i--) {
            word.append(LETTERS.charAt(below(26)));
        }
        return word.toString();
    }

    private void letters() {
        if (below(3) > 0) {
            append(word());
        }
        int station = within(0, 1);
        int urgency = within(0, 9);
        int length = within(1, 24);
        same("send", () -> relay.send(station, urgency, length), () -> model.send(station, urgency, length));
    }

    private void fog() {
        int first = below(8) == 0 ? within(0, 9999) : Math.min(relay.state(0) + below(20), 9999);
        int last = below(8) == 0 ? within(0, 9999) : first + below(3);
        int level = below(3) == 0 ? within(0, 9) : relay.channel(below(2), 0);
        same("fog", () -> relay.fog(first, last, level), () -> model.fog(first, last, level));
    }

    private void relieve() {
        int station = within(0, 1);
        int key = within(0, 25);
        same("relieve", () -> relay.relieve(station, key), () -> model.relieve(station, key));
    }

    private void power() {
        int channel = within(0, 1);
        int power = within(0, 9);
        same("power", () -> relay.power(channel, power), () -> model.power(channel, power));
    }

    private void cancel() {
        int message = within(0, 7);
        same("cancel", () -> relay.cancel(message), () -> model.cancel(message));
    }

    private void undo(int times) {
        for (int i = 0; i < times; i++) {
            same("undo", relay::undo, model::undo);
        }
    }

    private void pass() {
        int ticks = below(3) == 0 ? within(1, 100) : 1 + below(6);
        same("pass(" + ticks + ")", () -> relay.pass(ticks), () -> model.pass(ticks));
    }

    private void compareAll() {
        for (int i = -1; i <= 13; i++) {
            int what = i;
            same("state " + what, () -> relay.state(what), () -> model.state(what));
            same("channel 0 " + what, () -> relay.channel(0, what), () -> model.channel(0, what));
            same("channel 1 " + what, () -> relay.channel(1, what), () -> model.channel(1, what));
            same("next " + what, () -> relay.next(what), () -> model.next(what));
        }
        for (int i = -1; i <= relay.state(1); i++) {
            compareMessage(i);
        }
        compareRows();
        same("quality", relay::quality, model::quality);
        if (below(6) == 0) {
            compareForesight();
        }
        Check.due("run " + seed + ": checksum", UndoTest.sumOfTheFace(relay), relay.checksum());
    }

    private void compareMessage(int message) {
        for (int i = -1; i <= 10; i++) {
            int what = i;
            same("message " + what, () -> relay.message(message, what), () -> model.message(message, what));
        }
        for (int i = -1; i <= 24; i++) {
            int k = i;
            same("letter " + k, () -> relay.letter(message, k, false), () -> model.letter(message, k, false));
            same("log " + k, () -> relay.letter(message, k, true), () -> model.letter(message, k, true));
            same("why " + k, () -> relay.why(message, k), () -> model.why(message, k));
        }
    }

    private void compareRows() {
        int time = relay.state(0);
        for (int i = -1; i <= 12; i++) {
            int tick = i < 6 ? i : i == 6 ? 9999 : i == 7 ? 10000 : i == 8 ? 20000 : i == 9 ? 20001 : time + i - 11;
            same("mist " + tick, () -> relay.mist(tick), () -> model.mist(tick));
            same("key 0 " + tick, () -> relay.key(0, tick), () -> model.key(0, tick));
            same("key 1 " + tick, () -> relay.key(1, tick), () -> model.key(1, tick));
        }
    }

    private void compareForesight() {
        for (int i = -1; i <= 3; i++) {
            int what = i;
            same("foretold " + what, () -> relay.foretold(what), () -> model.foretold(what));
        }
        for (int i = -1; i <= 2; i++) {
            int channel = i;
            same("leastPower " + channel, () -> relay.leastPower(channel), () -> model.leastPower(channel));
        }
    }
}
