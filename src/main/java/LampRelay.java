import java.util.NoSuchElementException;

/**
 * Messages between two stations over two channels with mist, as ../shared/DOC.md promises them.
 * All rows are made with the object and used again, because what a run may make is limited.
 */
public final class LampRelay {
    public static final int SYNTAX_ERROR = -2;
    public static final int OUT_OF_RANGE = -3;
    public static final int REPEATED = -4;
    public static final int TOO_MANY = -5;

    private static final int STATIONS = 2;
    private static final int CHANNELS = 2;
    private static final int BUFFER_BYTES = 500;
    private static final int APPENDED_BYTES = 20;
    private static final int CHANGES_KEPT = 8;
    private static final int MESSAGES = 8;
    private static final int MESSAGE_LETTERS = 24;
    private static final int KEEPERS = 8;
    private static final int MISTS = 12;
    private static final int ALPHABET = 26;
    private static final int HOURS = 24;
    private static final int GREATEST_LEVEL = 9;
    private static final int GREATEST_FRAME_SIZE = 8;
    private static final int GREATEST_LIMIT = 9;
    private static final int LATEST_TOLD_TICK = 9999;
    private static final int LATEST_ASKED_TICK = 20000;
    private static final int FORETOLD_TICKS = 1000;
    private static final int PASSED_TICKS = 100;
    private static final int STATE_FIGURES = 13;
    private static final int CHANNEL_FIGURES = 6;
    private static final int MESSAGE_FIGURES = 10;
    private static final int FORETOLD_FIGURES = 3;

    /** In place of an index, a time or a letter where there is none. */
    private static final int NONE = -1;

    private final byte[] buffer = new byte[BUFFER_BYTES];
    private int bufferLength = 0;
    private int foundErrorOffset = NONE;
    private final World now = new World();
    /** What is tried out: a setup that may have an error, or ticks that are only foretold. */
    private final World trial = new World();
    private final History history = new History();

    public LampRelay() {
    }

    public int append(int w0, int w1, int w2, int w3, int w4) {
        if (bufferLength + APPENDED_BYTES > BUFFER_BYTES) {
            return -1;
        }
        appendWord(w0);
        appendWord(w1);
        appendWord(w2);
        appendWord(w3);
        appendWord(w4);
        return bufferLength;
    }

    public int load(int length) throws IllegalArgumentException {
        if (length < 0 || length > bufferLength) {
            throw new IllegalArgumentException("length");
        }
        bufferLength = 0;
        SetupReader reader = new SetupReader(buffer, length);
        if (!reader.readInto(trial)) {
            foundErrorOffset = reader.errorAt;
            return reader.errorCode;
        }
        foundErrorOffset = NONE;
        history.keep(now);
        now.copyFrom(trial);
        return now.told;
    }

    public int errorOffset() {
        return foundErrorOffset;
    }

    public int state(int what) throws IllegalArgumentException {
        if (!isWithin(what, 0, STATE_FIGURES - 1)) {
            throw new IllegalArgumentException("what");
        }
        return now.figure(what);
    }

    public int channel(int channel, int what) throws IndexOutOfBoundsException, IllegalArgumentException {
        if (!isWithin(channel, 0, CHANNELS - 1)) {
            throw new IndexOutOfBoundsException("channel");
        }
        if (!isWithin(what, 0, CHANNEL_FIGURES - 1)) {
            throw new IllegalArgumentException("what");
        }
        return now.channelNumbered(channel).figure(what, now.time);
    }

    public int message(int message, int what) throws IndexOutOfBoundsException, IllegalArgumentException {
        if (!now.hasMessage(message)) {
            throw new IndexOutOfBoundsException("message");
        }
        if (!isWithin(what, 0, MESSAGE_FIGURES - 1)) {
            throw new IllegalArgumentException("what");
        }
        return now.messageNumbered(message).figure(what);
    }

    public int letter(int message, int k, boolean isLog) throws IndexOutOfBoundsException, NoSuchElementException {
        if (!now.hasMessage(message)) {
            throw new IndexOutOfBoundsException("message");
        }
        Message asked = now.messageNumbered(message);
        if (!asked.hasPlace(k)) {
            throw new NoSuchElementException("k");
        }
        return isLog ? asked.loggedAt(k) : asked.letterAt(k);
    }

    public int why(int message, int k) throws IndexOutOfBoundsException, NoSuchElementException {
        if (!now.hasMessage(message)) {
            throw new IndexOutOfBoundsException("message");
        }
        Message asked = now.messageNumbered(message);
        if (!asked.hasPlace(k)) {
            throw new NoSuchElementException("k");
        }
        return asked.reasonAt(k);
    }

    public int mist(int tick) throws IllegalArgumentException {
        if (!isWithin(tick, 0, LATEST_ASKED_TICK)) {
            throw new IllegalArgumentException("tick");
        }
        return now.mists.levelAt(tick);
    }

    public int key(int station, int tick) throws IndexOutOfBoundsException, IllegalArgumentException {
        if (!isWithin(station, 0, STATIONS - 1)) {
            throw new IndexOutOfBoundsException("station");
        }
        if (!isWithin(tick, 0, LATEST_ASKED_TICK)) {
            throw new IllegalArgumentException("tick");
        }
        return now.keepersOf(station).keyAt(tick);
    }

    public int next(int k) throws NoSuchElementException {
        int message = now.servedAs(k);
        if (message == NONE) {
            throw new NoSuchElementException("k");
        }
        return message;
    }

    public int foretold(int what) throws IllegalArgumentException {
        if (!isWithin(what, 0, FORETOLD_FIGURES - 1)) {
            throw new IllegalArgumentException("what");
        }
        trial.copyFrom(now);
        trial.letForetoldTicksPass(false);
        switch (what) {
            case 0: return trial.isBusy() ? -1 : trial.time - now.time;
            case 1: return trial.agreeing();
            default: return trial.givenUp - now.givenUp;
        }
    }

    public int leastPower(int channel) throws IndexOutOfBoundsException {
        if (!isWithin(channel, 0, CHANNELS - 1)) {
            throw new IndexOutOfBoundsException("channel");
        }
        if (!now.isBusy()) {
            return 0;
        }
        for (int power = 0; power <= GREATEST_LEVEL; power++) {
            trial.copyFrom(now);
            trial.channelNumbered(channel).power = power;
            if (trial.letForetoldTicksPass(true)) {
                return power;
            }
        }
        return -1;
    }

    public double quality() {
        if (now.sent == 0) {
            return 0.0;
        }
        return (double) (now.sent - now.lost - now.garbled) / (double) now.sent;
    }

    public int pass(int ticks) throws IllegalArgumentException {
        if (!isWithin(ticks, 1, PASSED_TICKS)) {
            throw new IllegalArgumentException("ticks");
        }
        history.keep(now);
        int over = 0;
        for (int i = 0; i < ticks; i++) {
            if (now.letTickPass() != NONE) {
                over++;
            }
        }
        return over;
    }

    public int send(int station, int urgency, int length)
            throws IndexOutOfBoundsException, IllegalArgumentException, IllegalStateException {
        if (!isWithin(station, 0, STATIONS - 1)) {
            throw new IndexOutOfBoundsException("station");
        }
        if (!isWithin(urgency, 0, GREATEST_LEVEL) || !buffersLetters(length)) {
            throw new IllegalArgumentException("urgency, length or letters");
        }
        if (now.told >= MESSAGES) {
            throw new IllegalStateException("messages");
        }
        history.keep(now);
        now.addMessage(station, urgency, buffer, 0, length);
        bufferLength = 0;
        return now.told - 1;
    }

    public int fog(int first, int last, int level) throws IllegalArgumentException, IllegalStateException {
        if (!isWithin(first, 0, LATEST_TOLD_TICK) || !isWithin(last, first, LATEST_TOLD_TICK)
                || !isWithin(level, 0, GREATEST_LEVEL)) {
            throw new IllegalArgumentException("first, last or level");
        }
        if (now.mists.isFull()) {
            throw new IllegalStateException("mists");
        }
        history.keep(now);
        now.mists.add(first, last, level);
        return now.mists.told;
    }

    public int relieve(int station, int key)
            throws IndexOutOfBoundsException, IllegalArgumentException, IllegalStateException {
        if (!isWithin(station, 0, STATIONS - 1)) {
            throw new IndexOutOfBoundsException("station");
        }
        if (!isWithin(key, 0, ALPHABET - 1)) {
            throw new IllegalArgumentException("key");
        }
        Keepers keepers = now.keepersOf(station);
        if (now.time > LATEST_TOLD_TICK || (keepers.isFull() && !keepers.hasOneAt(now.time))) {
            throw new IllegalStateException("keepers or time");
        }
        history.keep(now);
        int before = keepers.keyAt(now.time);
        keepers.come(now.time, key);
        return before;
    }

    public int power(int channel, int power) throws IndexOutOfBoundsException, IllegalArgumentException {
        if (!isWithin(channel, 0, CHANNELS - 1)) {
            throw new IndexOutOfBoundsException("channel");
        }
        if (!isWithin(power, 0, GREATEST_LEVEL)) {
            throw new IllegalArgumentException("power");
        }
        history.keep(now);
        Channel changed = now.channelNumbered(channel);
        int before = changed.power;
        changed.power = power;
        return before;
    }

    public boolean cancel(int message) throws IndexOutOfBoundsException, IllegalStateException {
        if (!now.hasMessage(message)) {
            throw new IndexOutOfBoundsException("message");
        }
        if (!now.messageNumbered(message).canBeCancelled()) {
            throw new IllegalStateException("over or cancelled");
        }
        history.keep(now);
        return now.takeBack(message);
    }

    public int undo() {
        return history.restore(now) ? history.count : -1;
    }

    public long checksum() {
        long sum = 0;
        for (int what = 0; what < STATE_FIGURES; what++) {
            sum = 31 * sum + now.figure(what);
        }
        for (int i = 0; i < CHANNELS; i++) {
            for (int what = 0; what < CHANNEL_FIGURES; what++) {
                sum = 31 * sum + now.channelNumbered(i).figure(what, now.time);
            }
        }
        for (int i = 0; i < now.told; i++) {
            sum = now.messageNumbered(i).addedTo(sum);
        }
        return sum;
    }

    private void appendWord(int word) {
        for (int shift = 24; shift >= 0; shift -= 8) {
            if (bufferLength < buffer.length) {
                buffer[bufferLength] = (byte) (word >>> shift);
                bufferLength++;
            }
        }
    }

    private boolean buffersLetters(int length) {
        if (!isWithin(length, 1, MESSAGE_LETTERS) || length > bufferLength) {
            return false;
        }
        for (int i = 0; i < length && i < buffer.length; i++) {
            if (!isWithin(buffer[i], 'a', 'z')) {
                return false;
            }
        }
        return true;
    }

    private static boolean isWithin(int number, int least, int greatest) {
        return number >= least && number <= greatest;
    }

    /** 0 beyond the row, so that no index can fail. */
    private static int valueAt(int[] row, int i) {
        return i >= 0 && i < row.length ? row[i] : 0;
    }

    private static void setAt(int[] row, int i, int value) {
        if (i >= 0 && i < row.length) {
            row[i] = value;
        }
    }

    private static void copyRow(int[] from, int[] to) {
        System.arraycopy(from, 0, to, 0, Math.min(from.length, to.length));
    }

    /** The worlds as they were before the latest changes, in a ring. */
    private static final class History {
        private final World[] ring = new World[CHANGES_KEPT];
        private int place = 0;
        int count = 0;

        History() {
            for (int i = 0; i < ring.length; i++) {
                ring[i] = new World();
            }
        }

        void keep(World world) {
            World kept = keptAt(place);
            if (kept != null) {
                kept.copyFrom(world);
                place = (place + 1) % CHANGES_KEPT;
                count = Math.min(count + 1, CHANGES_KEPT);
            }
        }

        /** Returns whether there was a change to undo. */
        boolean restore(World world) {
            int before = (place + CHANGES_KEPT - 1) % CHANGES_KEPT;
            World kept = keptAt(before);
            if (count == 0 || kept == null) {
                return false;
            }
            world.copyFrom(kept);
            place = before;
            count--;
            return true;
        }

        private World keptAt(int i) {
            return i >= 0 && i < ring.length ? ring[i] : null;
        }
    }

    /** All data that a change may alter. */
    private static final class World {
        private static final int DEFAULT_FRAME_SIZE = 4;
        private static final int DEFAULT_LIMIT = 3;

        int time;
        int told;
        private int onTheWay;
        private int frameSize;
        private int limit;
        int sent;
        int lost;
        int garbled;
        int givenUp;
        private final Message[] messages = new Message[MESSAGES];
        /** Stands in where there is no message, so that nothing meets null. */
        private final Message noMessage = new Message();
        private final Channel channel0 = new Channel();
        private final Channel channel1 = new Channel();
        private final Keepers keepers0 = new Keepers();
        private final Keepers keepers1 = new Keepers();
        final Mists mists = new Mists();

        World() {
            for (int i = 0; i < messages.length; i++) {
                messages[i] = new Message();
            }
            clear(DEFAULT_FRAME_SIZE, DEFAULT_LIMIT);
        }

        void clear(int newFrameSize, int newLimit) {
            time = 0;
            told = 0;
            onTheWay = NONE;
            frameSize = newFrameSize;
            limit = newLimit;
            sent = 0;
            lost = 0;
            garbled = 0;
            givenUp = 0;
            channel0.clear();
            channel1.clear();
            keepers0.told = 0;
            keepers1.told = 0;
            mists.told = 0;
        }

        void copyFrom(World other) {
            time = other.time;
            told = other.told;
            onTheWay = other.onTheWay;
            frameSize = other.frameSize;
            limit = other.limit;
            sent = other.sent;
            lost = other.lost;
            garbled = other.garbled;
            givenUp = other.givenUp;
            for (int i = 0; i < told; i++) {
                messageNumbered(i).copyFrom(other.messageNumbered(i));
            }
            channel0.copyFrom(other.channel0);
            channel1.copyFrom(other.channel1);
            keepers0.copyFrom(other.keepers0);
            keepers1.copyFrom(other.keepers1);
            mists.copyFrom(other.mists);
        }

        boolean hasMessage(int i) {
            return i >= 0 && i < told;
        }

        Message messageNumbered(int i) {
            Message found = i >= 0 && i < messages.length ? messages[i] : null;
            return found == null ? noMessage : found;
        }

        Channel channelNumbered(int i) {
            return i == 0 ? channel0 : channel1;
        }

        Keepers keepersOf(int station) {
            return station == 0 ? keepers0 : keepers1;
        }

        void addMessage(int sender, int urgency, byte[] text, int first, int length) {
            if (told < MESSAGES) {
                messageNumbered(told).become(sender, urgency, frameSize);
                messageNumbered(told).takeLetters(text, first, length);
                told++;
            }
        }

        int figure(int what) {
            switch (what) {
                case 0: return time;
                case 1: return told;
                case 2: return onTheWay;
                case 3: return messagesIn(Message.WAITING);
                case 4: return messagesIn(Message.OVER);
                case 5: return agreeing();
                case 6: return sent;
                case 7: return lost;
                case 8: return garbled;
                case 9: return givenUp;
                case 10: return mists.told;
                case 11: return frameSize;
                default: return limit;
            }
        }

        private int messagesIn(int phase) {
            int count = 0;
            for (int i = 0; i < told; i++) {
                if (messageNumbered(i).phase == phase) {
                    count++;
                }
            }
            return count;
        }

        int agreeing() {
            int count = 0;
            for (int i = 0; i < told; i++) {
                if (messageNumbered(i).agrees()) {
                    count++;
                }
            }
            return count;
        }

        boolean isBusy() {
            return onTheWay != NONE || messagesIn(Message.WAITING) > 0;
        }

        /** The waiting message before which exactly rank others are served; NONE without one. */
        int servedAs(int rank) {
            for (int i = 0; i < told; i++) {
                if (messageNumbered(i).phase == Message.WAITING && servedBefore(i) == rank) {
                    return i;
                }
            }
            return NONE;
        }

        private int servedBefore(int message) {
            int urgency = messageNumbered(message).urgency;
            int count = 0;
            for (int i = 0; i < told; i++) {
                Message other = messageNumbered(i);
                if (other.phase == Message.WAITING
                        && (other.urgency > urgency || (other.urgency == urgency && i < message))) {
                    count++;
                }
            }
            return count;
        }

        /** Returns whether the message was on the way. */
        boolean takeBack(int message) {
            boolean wasOnTheWay = message == onTheWay;
            messageNumbered(message).end(Message.CANCELLED, time);
            if (wasOnTheWay) {
                onTheWay = NONE;
                channel0.becomeIdle();
                channel1.becomeIdle();
            }
            return wasOnTheWay;
        }

        /**
         * Lets ticks pass until no message is waiting or on the way, or until too many have passed;
         * if all must agree, only up to the first message that is over and does not agree.
         * Returns whether no message is left, and, if all must, all that became over agree.
         */
        boolean letForetoldTicksPass(boolean allMustAgree) {
            for (int i = 0; i < FORETOLD_TICKS && isBusy(); i++) {
                int over = letTickPass();
                if (allMustAgree && over != NONE && !messageNumbered(over).agrees()) {
                    return false;
                }
            }
            return !isBusy();
        }

        /** Returns the message that became over, NONE without one. */
        int letTickPass() {
            if (onTheWay == NONE) {
                startFirstWaiting();
            }
            int served = onTheWay;
            if (served != NONE) {
                int level = mists.levelAt(time);
                serve(channel0, level);
                serve(channel1, level);
            }
            time++;
            return onTheWay == NONE ? served : NONE;
        }

        private void startFirstWaiting() {
            onTheWay = servedAs(0);
            if (onTheWay != NONE) {
                messageNumbered(onTheWay).start(time);
            }
        }

        private void serve(Channel channel, int level) {
            if (onTheWay == NONE || !channel.isOpenAt(time)) {
                return;
            }
            Message message = messageNumbered(onTheWay);
            if (channel.isIdle()) {
                channel.take(message.takeOpenFrame());
            }
            if (channel.isIdle()) {
                return;
            }
            boolean isLost = level > channel.power;
            boolean isGarbled = level == channel.power;
            countSymbol(isLost, isGarbled);
            makeStep(channel, message, isLost, isGarbled);
            if (message.unfinished == 0) {
                message.end(Message.OVER, time);
                onTheWay = NONE;
            }
        }

        private void countSymbol(boolean isLost, boolean isGarbled) {
            sent++;
            if (isLost) {
                lost++;
            }
            if (isGarbled) {
                garbled++;
            }
        }

        private void makeStep(Channel channel, Message message, boolean isLost, boolean isGarbled) {
            int frame = channel.frame;
            int letters = message.lettersIn(frame);
            int slip = isGarbled ? 1 : 0;
            if (channel.step > letters + 1) {
                boolean isYes = !isLost && channel.isGood != isGarbled;
                channel.becomeIdle();
                if (message.endTry(frame, isYes, limit)) {
                    givenUp++;
                }
                return;
            }
            if (isLost) {
                channel.hasLost = true;
            }
            if (channel.step == 0) {
                channel.number = (frame + slip) % ALPHABET;
            } else if (channel.step <= letters) {
                int sentLetter = message.letterAt(message.firstPlaceOf(frame) + channel.step - 1);
                int shift = keepersOf(message.sender).keyAt(time) - keepersOf(1 - message.sender).keyAt(time);
                channel.hear(Math.floorMod(sentLetter + shift + slip, ALPHABET));
            } else {
                channel.judge(letters, (message.checkOf(frame) + slip) % ALPHABET);
                if (channel.isGood) {
                    message.writeDown(channel.number, channel.heard, letters);
                }
            }
            channel.step++;
        }
    }

    /** One message: the letters of the sender, the log of the receiver, and the frames. */
    private static final class Message {
        static final int WAITING = 0;
        static final int ON_THE_WAY = 1;
        static final int OVER = 2;
        static final int CANCELLED = 3;

        private static final int OPEN = 0;
        private static final int IN_WORK = 1;
        private static final int DONE = 2;
        private static final int GIVEN_UP = 3;

        int sender;
        int urgency;
        private int length;
        private int frameSize;
        private int frames;
        int phase;
        private int startTime;
        private int endTime;
        /** The frames that are neither done nor given up. */
        int unfinished;
        private final int[] letters = new int[MESSAGE_LETTERS];
        private final int[] log = new int[MESSAGE_LETTERS];
        private final int[] frameStates = new int[MESSAGE_LETTERS];
        private final int[] tries = new int[MESSAGE_LETTERS];

        void become(int newSender, int newUrgency, int newFrameSize) {
            sender = newSender;
            urgency = newUrgency;
            frameSize = newFrameSize;
            phase = WAITING;
            startTime = NONE;
            endTime = NONE;
            for (int i = 0; i < MESSAGE_LETTERS; i++) {
                setAt(log, i, NONE);
                setAt(frameStates, i, OPEN);
                setAt(tries, i, 0);
            }
        }

        void takeLetters(byte[] text, int first, int newLength) {
            length = Math.min(newLength, MESSAGE_LETTERS);
            for (int i = 0; i < length; i++) {
                int from = first + i;
                if (from >= 0 && from < text.length) {
                    setAt(letters, i, text[from] - 'a');
                }
            }
            frames = frameSize < 1 ? 0 : (length + frameSize - 1) / frameSize;
            unfinished = frames;
        }

        void copyFrom(Message other) {
            sender = other.sender;
            urgency = other.urgency;
            length = other.length;
            frameSize = other.frameSize;
            frames = other.frames;
            phase = other.phase;
            startTime = other.startTime;
            endTime = other.endTime;
            unfinished = other.unfinished;
            copyRow(other.letters, letters);
            copyRow(other.log, log);
            copyRow(other.frameStates, frameStates);
            copyRow(other.tries, tries);
        }

        int figure(int what) {
            switch (what) {
                case 0: return sender;
                case 1: return urgency;
                case 2: return length;
                case 3: return frames;
                case 4: return phase;
                case 5: return emptyPlaces();
                case 6: return wrongPlaces();
                case 7: return allTries();
                case 8: return startTime;
                default: return endTime;
            }
        }

        private int emptyPlaces() {
            int count = 0;
            for (int k = 0; k < length; k++) {
                if (loggedAt(k) == NONE) {
                    count++;
                }
            }
            return count;
        }

        private int wrongPlaces() {
            int count = 0;
            for (int k = 0; k < length; k++) {
                if (loggedAt(k) != NONE && loggedAt(k) != letterAt(k)) {
                    count++;
                }
            }
            return count;
        }

        private int allTries() {
            int sum = 0;
            for (int frame = 0; frame < frames; frame++) {
                sum += valueAt(tries, frame);
            }
            return sum;
        }

        boolean agrees() {
            return phase == OVER && emptyPlaces() == 0 && wrongPlaces() == 0;
        }

        boolean canBeCancelled() {
            return phase == WAITING || phase == ON_THE_WAY;
        }

        boolean hasPlace(int k) {
            return k >= 0 && k < length;
        }

        int letterAt(int k) {
            return valueAt(letters, k);
        }

        int loggedAt(int k) {
            return valueAt(log, k);
        }

        int reasonAt(int k) {
            if (loggedAt(k) == letterAt(k)) {
                return 0;
            }
            if (loggedAt(k) != NONE) {
                return 3;
            }
            int state = frameSize < 1 ? OPEN : valueAt(frameStates, k / frameSize);
            return state == OPEN || state == IN_WORK ? 1 : 2;
        }

        long addedTo(long checksum) {
            long sum = checksum;
            for (int what = 0; what < MESSAGE_FIGURES; what++) {
                sum = 31 * sum + figure(what);
            }
            for (int k = 0; k < length; k++) {
                sum = 31 * sum + loggedAt(k);
                sum = 31 * sum + reasonAt(k);
            }
            return sum;
        }

        void start(int time) {
            phase = ON_THE_WAY;
            startTime = time;
        }

        void end(int newPhase, int time) {
            phase = newPhase;
            endTime = time;
        }

        /** Puts the open frame with the smallest index in work and returns it; NONE without one. */
        int takeOpenFrame() {
            for (int frame = 0; frame < frames; frame++) {
                if (valueAt(frameStates, frame) == OPEN) {
                    setAt(frameStates, frame, IN_WORK);
                    return frame;
                }
            }
            return NONE;
        }

        int firstPlaceOf(int frame) {
            return frame * frameSize;
        }

        int lettersIn(int frame) {
            return Math.min(frameSize, length - firstPlaceOf(frame));
        }

        int checkOf(int frame) {
            int sum = frame;
            int first = firstPlaceOf(frame);
            for (int i = 0; i < lettersIn(frame); i++) {
                sum += letterAt(first + i);
            }
            return sum % ALPHABET;
        }

        /** Writes what was heard into the log as the frame with this number; a place that is not empty stays. */
        void writeDown(int number, int[] heard, int count) {
            if (number >= frames) {
                return;
            }
            int first = firstPlaceOf(number);
            for (int i = 0; i < count; i++) {
                if (hasPlace(first + i) && loggedAt(first + i) == NONE) {
                    setAt(log, first + i, valueAt(heard, i));
                }
            }
        }

        /** Returns whether the frame was given up. */
        boolean endTry(int frame, boolean isYes, int limit) {
            if (isYes) {
                setAt(frameStates, frame, DONE);
                unfinished--;
                return false;
            }
            int made = valueAt(tries, frame) + 1;
            setAt(tries, frame, made);
            if (made < limit) {
                setAt(frameStates, frame, OPEN);
                return false;
            }
            setAt(frameStates, frame, GIVEN_UP);
            unfinished--;
            return true;
        }
    }

    /** One channel, with what the receiver has heard of the frame in work. */
    private static final class Channel {
        private static final int DEFAULT_POWER = 5;

        int power;
        int opening;
        int closing;
        int frame;
        int step;
        int number;
        private int heardLetters;
        final int[] heard = new int[GREATEST_FRAME_SIZE];
        boolean hasLost;
        boolean isGood;

        void clear() {
            power = DEFAULT_POWER;
            opening = 0;
            closing = 0;
            becomeIdle();
        }

        void becomeIdle() {
            take(NONE);
        }

        /** NONE leaves the channel idle. */
        void take(int newFrame) {
            frame = newFrame;
            step = 0;
            number = 0;
            heardLetters = 0;
            hasLost = false;
            isGood = false;
        }

        void copyFrom(Channel other) {
            power = other.power;
            opening = other.opening;
            closing = other.closing;
            frame = other.frame;
            step = other.step;
            number = other.number;
            heardLetters = other.heardLetters;
            copyRow(other.heard, heard);
            hasLost = other.hasLost;
            isGood = other.isGood;
        }

        int figure(int what, int time) {
            switch (what) {
                case 0: return power;
                case 1: return opening;
                case 2: return closing;
                case 3: return isOpenAt(time) ? 1 : 0;
                case 4: return frame;
                default: return isIdle() ? -1 : step;
            }
        }

        boolean isIdle() {
            return frame == NONE;
        }

        boolean isOpenAt(int time) {
            int hour = time % HOURS;
            if (opening < closing) {
                return hour >= opening && hour < closing;
            }
            return opening == closing || hour >= opening || hour < closing;
        }

        void hear(int letter) {
            setAt(heard, heardLetters, letter);
            heardLetters++;
        }

        /** Finds whether the frame is good, with the check symbol as it came. */
        void judge(int letters, int check) {
            int sum = number;
            for (int i = 0; i < letters; i++) {
                sum += valueAt(heard, i);
            }
            isGood = !hasLost && sum % ALPHABET == check;
        }
    }

    /** The keepers of one station. */
    private static final class Keepers {
        int told = 0;
        private final int[] ticks = new int[KEEPERS];
        private final int[] keys = new int[KEEPERS];

        void copyFrom(Keepers other) {
            told = other.told;
            copyRow(other.ticks, ticks);
            copyRow(other.keys, keys);
        }

        boolean isFull() {
            return told >= KEEPERS;
        }

        boolean hasOneAt(int tick) {
            return placeOf(tick) < told;
        }

        /** The place of the keeper who comes at this tick, or the one behind the last keeper. */
        private int placeOf(int tick) {
            for (int i = 0; i < told; i++) {
                if (valueAt(ticks, i) == tick) {
                    return i;
                }
            }
            return told;
        }

        void come(int tick, int key) {
            int place = placeOf(tick);
            if (place >= KEEPERS) {
                return;
            }
            setAt(ticks, place, tick);
            setAt(keys, place, key);
            told = Math.max(told, place + 1);
        }

        int keyAt(int tick) {
            int latest = NONE;
            int key = 0;
            for (int i = 0; i < told; i++) {
                int comes = valueAt(ticks, i);
                if (comes <= tick && comes > latest) {
                    latest = comes;
                    key = valueAt(keys, i);
                }
            }
            return key;
        }
    }

    /** The mists, in the order in which they were told. */
    private static final class Mists {
        int told = 0;
        private final int[] firsts = new int[MISTS];
        private final int[] lasts = new int[MISTS];
        private final int[] levels = new int[MISTS];

        void copyFrom(Mists other) {
            told = other.told;
            copyRow(other.firsts, firsts);
            copyRow(other.lasts, lasts);
            copyRow(other.levels, levels);
        }

        boolean isFull() {
            return told >= MISTS;
        }

        void add(int first, int last, int level) {
            if (isFull()) {
                return;
            }
            setAt(firsts, told, first);
            setAt(lasts, told, last);
            setAt(levels, told, level);
            told++;
        }

        int levelAt(int tick) {
            for (int i = told - 1; i >= 0; i--) {
                if (tick >= valueAt(firsts, i) && tick <= valueAt(lasts, i)) {
                    return valueAt(levels, i);
                }
            }
            return 0;
        }
    }

    /**
     * Reads a setup text. Errors are looked for in the order of their offsets, so that the first one
     * that is found is the first one in the text; reading ends with it.
     */
    private static final class SetupReader {
        /** Greater than all ranges, and small enough for another digit behind it. */
        private static final int HUGE = 1000000;

        private final byte[] text;
        private final int length;
        private int at = 0;
        /** The offset of the latest token. */
        private int tokenAt = 0;
        private int channelsTold = 0;
        int errorCode = 0;
        int errorAt = NONE;

        SetupReader(byte[] text, int length) {
            this.text = text;
            this.length = length;
        }

        /** Returns whether the text has no error; the world is of use only then. */
        boolean readInto(World world) {
            if (!readRelay(world)) {
                return false;
            }
            for (int i = 0; i < length && findToken(); i++) {
                if (!readStatement(world)) {
                    return false;
                }
            }
            return true;
        }

        private boolean readRelay(World world) {
            readWord();
            if (!isToken("relay")) {
                return isError(SYNTAX_ERROR);
            }
            int frameSize = readNumber(1, GREATEST_FRAME_SIZE);
            if (frameSize == NONE) {
                return false;
            }
            int limit = readNumber(1, GREATEST_LIMIT);
            if (limit == NONE) {
                return false;
            }
            world.clear(frameSize, limit);
            return readSemicolon();
        }

        private boolean readStatement(World world) {
            readWord();
            if (isToken("channel")) {
                return readChannel(world) && readSemicolon();
            }
            if (isToken("keeper")) {
                return readKeeper(world) && readSemicolon();
            }
            if (isToken("mist")) {
                return readMist(world) && readSemicolon();
            }
            if (isToken("message")) {
                return readMessage(world) && readSemicolon();
            }
            return isError(SYNTAX_ERROR);
        }

        private boolean readChannel(World world) {
            int number = readNumber(0, CHANNELS - 1);
            if (number == NONE) {
                return false;
            }
            int bit = 1 << number;
            if ((channelsTold & bit) != 0) {
                return isError(REPEATED);
            }
            channelsTold |= bit;
            Channel channel = world.channelNumbered(number);
            channel.power = readNumber(0, GREATEST_LEVEL);
            if (channel.power == NONE) {
                return false;
            }
            channel.opening = readNumber(0, HOURS - 1);
            if (channel.opening == NONE) {
                return false;
            }
            channel.closing = readNumber(0, HOURS - 1);
            return channel.closing != NONE;
        }

        private boolean readKeeper(World world) {
            int station = readNumber(0, STATIONS - 1);
            if (station == NONE) {
                return false;
            }
            Keepers keepers = world.keepersOf(station);
            if (keepers.isFull()) {
                return isError(TOO_MANY);
            }
            int tick = readNumber(0, LATEST_TOLD_TICK);
            if (tick == NONE) {
                return false;
            }
            if (keepers.hasOneAt(tick)) {
                return isError(REPEATED);
            }
            int key = readNumber(0, ALPHABET - 1);
            if (key == NONE) {
                return false;
            }
            keepers.come(tick, key);
            return true;
        }

        private boolean readMist(World world) {
            if (world.mists.isFull()) {
                return isError(TOO_MANY);
            }
            int first = readNumber(0, LATEST_TOLD_TICK);
            if (first == NONE) {
                return false;
            }
            int last = readNumber(first, LATEST_TOLD_TICK);
            if (last == NONE) {
                return false;
            }
            int level = readNumber(0, GREATEST_LEVEL);
            if (level == NONE) {
                return false;
            }
            world.mists.add(first, last, level);
            return true;
        }

        private boolean readMessage(World world) {
            if (world.told >= MESSAGES) {
                return isError(TOO_MANY);
            }
            int sender = readNumber(0, STATIONS - 1);
            if (sender == NONE) {
                return false;
            }
            int urgency = readNumber(0, GREATEST_LEVEL);
            if (urgency == NONE) {
                return false;
            }
            readWord();
            if (at == tokenAt) {
                return isError(SYNTAX_ERROR);
            }
            if (at - tokenAt > MESSAGE_LETTERS) {
                return isError(OUT_OF_RANGE);
            }
            world.addMessage(sender, urgency, text, tokenAt, at - tokenAt);
            return true;
        }

        /** Always false, the answer of a reading that fails. */
        private boolean isError(int code) {
            errorCode = code;
            errorAt = tokenAt;
            return false;
        }

        /** Returns whether there is a token or another byte behind the spaces. */
        private boolean findToken() {
            while (at < length && byteAt(at) == ' ') {
                at++;
            }
            tokenAt = at;
            return at < length;
        }

        /** The token is empty if there is no word here. */
        private void readWord() {
            findToken();
            while (at < length && isWithin(byteAt(at), 'a', 'z')) {
                at++;
            }
        }

        /** NONE, and an error, if there is no number here that is allowed. */
        private int readNumber(int least, int greatest) {
            findToken();
            int number = 0;
            while (at < length && isWithin(byteAt(at), '0', '9')) {
                number = Math.min(10 * number + byteAt(at) - '0', HUGE);
                at++;
            }
            if (at == tokenAt) {
                isError(SYNTAX_ERROR);
                return NONE;
            }
            if (!isWithin(number, least, greatest)) {
                isError(OUT_OF_RANGE);
                return NONE;
            }
            return number;
        }

        private boolean readSemicolon() {
            if (!findToken() || byteAt(at) != ';') {
                return isError(SYNTAX_ERROR);
            }
            at++;
            return true;
        }

        private boolean isToken(String word) {
            if (at - tokenAt != word.length()) {
                return false;
            }
            for (int i = 0; i < word.length(); i++) {
                if (byteAt(tokenAt + i) != word.charAt(i)) {
                    return false;
                }
            }
            return true;
        }

        /** NONE beyond the text; a byte of 128 or more is below 0 too, and no token has it. */
        private int byteAt(int i) {
            return i >= 0 && i < length && i < text.length ? text[i] : NONE;
        }
    }
}
