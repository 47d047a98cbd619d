import java.util.ArrayDeque;
import java.util.ArrayList;
import java.util.List;
import java.util.NoSuchElementException;
import java.util.TreeMap;

/**
 * The promises written a second time, as plainly as the Java library allows and without a look at how
 * LampRelay does it. ModelTest compares the answers of both.
 */
final class Model {
    private enum Stage { WAITING, ON_THE_WAY, OVER, CANCELLED }

    private enum Work { OPEN, IN_WORK, DONE, GIVEN_UP }

    private record Mist(int first, int last, int level) {
    }

    private static final class Frame {
        int number;
        int first;
        int letters;
        Work work = Work.OPEN;
        int tries = 0;

        Frame(int number, int first, int letters) {
            this.number = number;
            this.first = first;
            this.letters = letters;
        }

        Frame copy() {
            Frame copy = new Frame(number, first, letters);
            copy.work = work;
            copy.tries = tries;
            return copy;
        }
    }

    private static final class Message {
        int sender;
        int urgency;
        String letters;
        Stage stage = Stage.WAITING;
        int start = -1;
        int end = -1;
        TreeMap<Integer, Integer> log = new TreeMap<>();
        List<Frame> frames = new ArrayList<>();

        Message copy() {
            Message copy = new Message();
            copy.sender = sender;
            copy.urgency = urgency;
            copy.letters = letters;
            copy.stage = stage;
            copy.start = start;
            copy.end = end;
            copy.log.putAll(log);
            for (Frame frame : frames) {
                copy.frames.add(frame.copy());
            }
            return copy;
        }

        int letter(int k) {
            return letters.charAt(k) - 'a';
        }

        int why(int k) {
            if (!log.containsKey(k)) {
                for (Frame frame : frames) {
                    if (k >= frame.first && k < frame.first + frame.letters) {
                        return frame.work == Work.OPEN || frame.work == Work.IN_WORK ? 1 : 2;
                    }
                }
                throw new AssertionError("a place without a frame");
            }
            return log.get(k) == letter(k) ? 0 : 3;
        }

        int count(int reason) {
            int count = 0;
            for (int k = 0; k < letters.length(); k++) {
                count += why(k) == reason ? 1 : 0;
            }
            return count;
        }

        boolean agrees() {
            return stage == Stage.OVER && count(0) == letters.length();
        }
    }

    private static final class Channel {
        int power = 5;
        int opening = 0;
        int closing = 0;
        /** -1 if idle. */
        int frame = -1;
        int step = -1;
        /** The symbols of the frame as they came, null for a lost one; letters without the key. */
        List<Integer> came = new ArrayList<>();
        boolean good = false;

        Channel copy() {
            Channel copy = new Channel();
            copy.power = power;
            copy.opening = opening;
            copy.closing = closing;
            copy.frame = frame;
            copy.step = step;
            copy.came.addAll(came);
            copy.good = good;
            return copy;
        }

        boolean open(int time) {
            if (opening == closing) {
                return true;
            }
            for (int hour = opening; hour != closing; hour = (hour + 1) % 24) {
                if (hour == time % 24) {
                    return true;
                }
            }
            return false;
        }

        void idle() {
            frame = -1;
            step = -1;
            came.clear();
        }
    }

    private static final class Data {
        int time = 0;
        int size = 4;
        int limit = 3;
        int sent = 0;
        int lost = 0;
        int garbled = 0;
        int givenUp = 0;
        List<Message> messages = new ArrayList<>();
        Channel[] channels = {new Channel(), new Channel()};
        List<TreeMap<Integer, Integer>> keepers = List.of(new TreeMap<>(), new TreeMap<>());
        List<Mist> mists = new ArrayList<>();

        Data copy() {
            Data copy = new Data();
            copy.time = time;
            copy.size = size;
            copy.limit = limit;
            copy.sent = sent;
            copy.lost = lost;
            copy.garbled = garbled;
            copy.givenUp = givenUp;
            for (Message message : messages) {
                copy.messages.add(message.copy());
            }
            for (int i = 0; i < 2; i++) {
                copy.channels[i] = channels[i].copy();
                copy.keepers.get(i).putAll(keepers.get(i));
            }
            copy.mists.addAll(mists);
            return copy;
        }

        int mist(int tick) {
            int level = 0;
            for (Mist mist : mists) {
                if (mist.first <= tick && tick <= mist.last) {
                    level = mist.level;
                }
            }
            return level;
        }

        int key(int station, int tick) {
            var keeper = keepers.get(station).floorEntry(tick);
            return keeper == null ? 0 : keeper.getValue();
        }

        void add(int sender, int urgency, String letters) {
            Message message = new Message();
            message.sender = sender;
            message.urgency = urgency;
            message.letters = letters;
            for (int first = 0; first < letters.length(); first += size) {
                message.frames.add(new Frame(message.frames.size(), first, Math.min(size, letters.length() - first)));
            }
            messages.add(message);
        }

        int onTheWay() {
            for (int i = 0; i < messages.size(); i++) {
                if (messages.get(i).stage == Stage.ON_THE_WAY) {
                    return i;
                }
            }
            return -1;
        }

        int count(Stage stage) {
            int count = 0;
            for (Message message : messages) {
                count += message.stage == stage ? 1 : 0;
            }
            return count;
        }

        int agreeing() {
            int count = 0;
            for (Message message : messages) {
                count += message.agrees() ? 1 : 0;
            }
            return count;
        }

        List<Integer> order() {
            List<Integer> order = new ArrayList<>();
            for (int urgency = 9; urgency >= 0; urgency--) {
                for (int i = 0; i < messages.size(); i++) {
                    if (messages.get(i).stage == Stage.WAITING && messages.get(i).urgency == urgency) {
                        order.add(i);
                    }
                }
            }
            return order;
        }

        void tick() {
            if (onTheWay() < 0 && !order().isEmpty()) {
                Message first = messages.get(order().get(0));
                first.stage = Stage.ON_THE_WAY;
                first.start = time;
            }
            for (Channel channel : channels) {
                if (onTheWay() >= 0 && channel.open(time)) {
                    work(channel, messages.get(onTheWay()));
                }
            }
            time++;
        }

        private void work(Channel channel, Message message) {
            if (channel.frame < 0) {
                for (Frame frame : message.frames) {
                    if (frame.work == Work.OPEN) {
                        frame.work = Work.IN_WORK;
                        channel.frame = frame.number;
                        channel.step = 0;
                        break;
                    }
                }
                if (channel.frame < 0) {
                    return;
                }
            }
            step(channel, message, message.frames.get(channel.frame));
            boolean over = true;
            for (Frame frame : message.frames) {
                over &= frame.work == Work.DONE || frame.work == Work.GIVEN_UP;
            }
            if (over) {
                message.stage = Stage.OVER;
                message.end = time;
            }
        }

        private void step(Channel channel, Message message, Frame frame) {
            int last = frame.letters + 2;
            if (channel.step == last) {
                Integer answer = carry(channel, channel.good ? 1 : 0, 2);
                if (answer != null && answer == 1) {
                    frame.work = Work.DONE;
                } else {
                    frame.tries++;
                    frame.work = frame.tries == limit ? Work.GIVEN_UP : Work.OPEN;
                    givenUp += frame.tries == limit ? 1 : 0;
                }
                channel.idle();
                return;
            }
            if (channel.step == 0) {
                channel.came.add(carry(channel, frame.number % 26, 26));
            } else if (channel.step <= frame.letters) {
                int letter = message.letter(frame.first + channel.step - 1);
                Integer came = carry(channel, (letter + key(message.sender, time)) % 26, 26);
                channel.came.add(came == null ? null : (came + 26 - key(1 - message.sender, time)) % 26);
            } else {
                int sum = frame.number;
                for (int i = 0; i < frame.letters; i++) {
                    sum += message.letter(frame.first + i);
                }
                channel.came.add(carry(channel, sum % 26, 26));
                receive(channel, message, frame);
            }
            channel.step++;
        }

        /** The symbol as it comes, one of so many; null if it is lost. */
        private Integer carry(Channel channel, int symbol, int symbols) {
            sent++;
            int level = mist(time);
            if (level > channel.power) {
                lost++;
                return null;
            }
            if (level == channel.power) {
                garbled++;
                return (symbol + 1) % symbols;
            }
            return symbol;
        }

        private void receive(Channel channel, Message message, Frame frame) {
            List<Integer> came = channel.came;
            channel.good = false;
            if (came.contains(null)) {
                return;
            }
            int sum = 0;
            for (int i = 0; i <= frame.letters; i++) {
                sum += came.get(i);
            }
            channel.good = sum % 26 == came.get(frame.letters + 1);
            if (channel.good && came.get(0) < message.frames.size()) {
                int first = message.frames.get(came.get(0)).first;
                for (int i = 0; i < frame.letters && first + i < message.letters.length(); i++) {
                    message.log.putIfAbsent(first + i, came.get(i + 1));
                }
            }
        }

        /** Returns the ticks, or -1 if 1000 are not enough. */
        int runOut() {
            for (int ticks = 0; ticks <= 1000; ticks++) {
                if (onTheWay() < 0 && order().isEmpty()) {
                    return ticks;
                }
                if (ticks < 1000) {
                    tick();
                }
            }
            return -1;
        }
    }

    private Data data = new Data();
    private final ArrayDeque<Data> past = new ArrayDeque<>();
    private final List<Integer> buffer = new ArrayList<>();
    private int offset = -1;

    private void change() {
        past.addLast(data.copy());
        if (past.size() > 8) {
            past.removeFirst();
        }
    }

    private static void must(boolean holds, RuntimeException otherwise) {
        if (!holds) {
            throw otherwise;
        }
    }

    private static void range(int number, int least, int greatest) {
        must(number >= least && number <= greatest, new IllegalArgumentException());
    }

    private static void index(int number, int size) {
        must(number >= 0 && number < size, new IndexOutOfBoundsException());
    }

    int append(int[] words) {
        if (buffer.size() > 480) {
            return -1;
        }
        for (int word : words) {
            for (int i = 3; i >= 0; i--) {
                buffer.add((word >> 8 * i) & 255);
            }
        }
        return buffer.size();
    }

    int load(int length) {
        range(length, 0, buffer.size());
        StringBuilder text = new StringBuilder();
        for (int i = 0; i < length; i++) {
            text.append((char) (int) buffer.get(i));
        }
        buffer.clear();
        Reading reading = new Reading(text.toString());
        offset = reading.offset;
        if (reading.code < 0) {
            return reading.code;
        }
        change();
        data = reading.data;
        return data.messages.size();
    }

    int errorOffset() {
        return offset;
    }

    int state(int what) {
        range(what, 0, 12);
        return new int[] {data.time, data.messages.size(), data.onTheWay(), data.count(Stage.WAITING),
            data.count(Stage.OVER), data.agreeing(), data.sent, data.lost, data.garbled, data.givenUp,
            data.mists.size(), data.size, data.limit}[what];
    }

    int channel(int channel, int what) {
        index(channel, 2);
        range(what, 0, 5);
        Channel asked = data.channels[channel];
        return new int[] {asked.power, asked.opening, asked.closing, asked.open(data.time) ? 1 : 0, asked.frame,
            asked.step}[what];
    }

    int message(int message, int what) {
        index(message, data.messages.size());
        range(what, 0, 9);
        Message asked = data.messages.get(message);
        int tries = 0;
        for (Frame frame : asked.frames) {
            tries += frame.tries;
        }
        return new int[] {asked.sender, asked.urgency, asked.letters.length(), asked.frames.size(),
            asked.stage.ordinal(), asked.count(1) + asked.count(2), asked.count(3), tries, asked.start,
            asked.end}[what];
    }

    private Message withPlace(int message, int k) {
        index(message, data.messages.size());
        Message asked = data.messages.get(message);
        must(k >= 0 && k < asked.letters.length(), new NoSuchElementException());
        return asked;
    }

    int letter(int message, int k, boolean isLog) {
        Message asked = withPlace(message, k);
        return isLog ? asked.log.getOrDefault(k, -1) : asked.letter(k);
    }

    int why(int message, int k) {
        return withPlace(message, k).why(k);
    }

    int mist(int tick) {
        range(tick, 0, 20000);
        return data.mist(tick);
    }

    int key(int station, int tick) {
        index(station, 2);
        range(tick, 0, 20000);
        return data.key(station, tick);
    }

    int next(int k) {
        must(k >= 0 && k < data.order().size(), new NoSuchElementException());
        return data.order().get(k);
    }

    int foretold(int what) {
        range(what, 0, 2);
        Data later = data.copy();
        int ticks = later.runOut();
        return new int[] {ticks, later.agreeing(), later.givenUp - data.givenUp}[what];
    }

    int leastPower(int channel) {
        index(channel, 2);
        List<Integer> asked = data.order();
        if (data.onTheWay() >= 0) {
            asked.add(data.onTheWay());
        }
        if (asked.isEmpty()) {
            return 0;
        }
        for (int power = 0; power <= 9; power++) {
            Data later = data.copy();
            later.channels[channel].power = power;
            boolean all = later.runOut() >= 0;
            for (int message : asked) {
                all &= later.messages.get(message).agrees();
            }
            if (all) {
                return power;
            }
        }
        return -1;
    }

    double quality() {
        return data.sent == 0 ? 0.0 : (double) (data.sent - data.lost - data.garbled) / (double) data.sent;
    }

    int pass(int ticks) {
        range(ticks, 1, 100);
        change();
        int before = data.count(Stage.OVER);
        for (int i = 0; i < ticks; i++) {
            data.tick();
        }
        return data.count(Stage.OVER) - before;
    }

    int send(int station, int urgency, int length) {
        index(station, 2);
        range(urgency, 0, 9);
        range(length, 1, Math.min(24, buffer.size()));
        StringBuilder letters = new StringBuilder();
        for (int i = 0; i < length; i++) {
            range(buffer.get(i), 'a', 'z');
            letters.append((char) (int) buffer.get(i));
        }
        must(data.messages.size() < 8, new IllegalStateException());
        change();
        buffer.clear();
        data.add(station, urgency, letters.toString());
        return data.messages.size() - 1;
    }

    int fog(int first, int last, int level) {
        range(first, 0, 9999);
        range(last, first, 9999);
        range(level, 0, 9);
        must(data.mists.size() < 12, new IllegalStateException());
        change();
        data.mists.add(new Mist(first, last, level));
        return data.mists.size();
    }

    int relieve(int station, int key) {
        index(station, 2);
        range(key, 0, 25);
        TreeMap<Integer, Integer> keepers = data.keepers.get(station);
        must(keepers.size() < 8 || keepers.containsKey(data.time), new IllegalStateException());
        must(data.time <= 9999, new IllegalStateException());
        int before = data.key(station, data.time);
        change();
        data.keepers.get(station).put(data.time, key);
        return before;
    }

    int power(int channel, int power) {
        index(channel, 2);
        range(power, 0, 9);
        int before = data.channels[channel].power;
        change();
        data.channels[channel].power = power;
        return before;
    }

    boolean cancel(int message) {
        index(message, data.messages.size());
        Stage stage = data.messages.get(message).stage;
        must(stage == Stage.WAITING || stage == Stage.ON_THE_WAY, new IllegalStateException());
        change();
        data.messages.get(message).stage = Stage.CANCELLED;
        data.messages.get(message).end = data.time;
        if (stage == Stage.ON_THE_WAY) {
            data.channels[0].idle();
            data.channels[1].idle();
        }
        return stage == Stage.ON_THE_WAY;
    }

    int undo() {
        if (past.isEmpty()) {
            return -1;
        }
        data = past.removeLast();
        return past.size();
    }

    /**
     * Reads a setup text into tokens, and these by the grammar up to the first syntax error; keeps of all
     * errors the one with the smallest offset, of several kinds the first one of the document's list.
     */
    private static final class Reading {
        private record Token(String text, int at) {
        }

        final Data data = new Data();
        int code = 0;
        int offset = -1;
        private final List<Token> tokens = new ArrayList<>();
        private int taken = 0;
        private boolean ended = false;
        private final List<Integer> channels = new ArrayList<>();

        Reading(String text) {
            cut(text);
            take("relay");
            data.size = Math.max(1, number(1, 8));
            data.limit = number(1, 9);
            take(";");
            while (!ended && !tokens.get(taken).text.isEmpty()) {
                statement();
                take(";");
            }
        }

        private void cut(String text) {
            int at = 0;
            while (at < text.length()) {
                int end = at + 1;
                if (kind(text.charAt(at)) > 0) {
                    while (end < text.length() && kind(text.charAt(end)) == kind(text.charAt(at))) {
                        end++;
                    }
                }
                if (text.charAt(at) != ' ') {
                    tokens.add(new Token(text.substring(at, end), at));
                }
                at = end;
            }
            tokens.add(new Token("", text.length()));
        }

        private static int kind(char sign) {
            return sign >= '0' && sign <= '9' ? 1 : sign >= 'a' && sign <= 'z' ? 2 : 0;
        }

        private void error(int kind, int at) {
            if (offset < 0 || at < offset || at == offset && kind > code) {
                code = kind;
                offset = at;
            }
        }

        /** Behind a syntax error nothing more is read. */
        private Token takeIf(boolean fits) {
            Token token = tokens.get(taken);
            if (ended) {
                return token;
            }
            if (!fits) {
                error(-2, token.at);
                ended = true;
            } else {
                taken++;
            }
            return token;
        }

        private void take(String text) {
            takeIf(tokens.get(taken).text.equals(text));
        }

        private int number(int least, int greatest) {
            String text = tokens.get(taken).text;
            boolean fits = !text.isEmpty() && kind(text.charAt(0)) == 1;
            Token token = takeIf(fits);
            if (ended) {
                return 0;
            }
            var value = new java.math.BigInteger(token.text);
            boolean allowed = value.compareTo(java.math.BigInteger.valueOf(least)) >= 0
                    && value.compareTo(java.math.BigInteger.valueOf(greatest)) <= 0;
            if (!allowed) {
                error(-3, token.at);
                return 0;
            }
            return value.intValue();
        }

        private void statement() {
            int first = tokens.get(taken).at;
            switch (tokens.get(taken).text) {
                case "channel" -> channel();
                case "keeper" -> keeper();
                case "mist" -> mist(first);
                case "message" -> message(first);
                default -> takeIf(false);
            }
        }

        private void channel() {
            taken++;
            int at = tokens.get(taken).at;
            int channel = number(0, 1);
            if (ended) {
                return;
            }
            if (channels.contains(channel)) {
                error(-4, at);
            }
            channels.add(channel);
            data.channels[channel].power = number(0, 9);
            data.channels[channel].opening = number(0, 23);
            data.channels[channel].closing = number(0, 23);
        }

        private void keeper() {
            taken++;
            int at = tokens.get(taken).at;
            int station = number(0, 1);
            if (ended) {
                return;
            }
            TreeMap<Integer, Integer> keepers = data.keepers.get(station);
            if (keepers.size() == 8) {
                error(-5, at);
            }
            at = tokens.get(taken).at;
            int tick = number(0, 9999);
            if (!ended && keepers.containsKey(tick)) {
                error(-4, at);
            }
            keepers.put(tick, number(0, 25));
        }

        private void mist(int at) {
            taken++;
            if (data.mists.size() == 12) {
                error(-5, at);
            }
            int first = number(0, 9999);
            int last = number(first, 9999);
            data.mists.add(new Mist(first, last, number(0, 9)));
        }

        private void message(int at) {
            taken++;
            if (data.messages.size() == 8) {
                error(-5, at);
            }
            int sender = number(0, 1);
            int urgency = number(0, 9);
            String text = tokens.get(taken).text;
            Token word = takeIf(!text.isEmpty() && kind(text.charAt(0)) == 2);
            if (!ended && word.text.length() > 24) {
                error(-3, word.at);
            }
            data.add(sender, urgency, word.text);
        }
    }
}
