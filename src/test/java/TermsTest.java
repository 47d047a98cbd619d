import java.util.NoSuchElementException;

/** The sentences under "Terms", from "Conventions" to "Messages", with the edges that they name. */
final class TermsTest {
    /** Channel 0 with power 3 works alone in the hours 0 to 22. */
    private static final String ALONE = "channel 0 3 0 0;channel 1 5 23 0;";
    private static final String LETTERS = "abcdefghijklmnopqrstuvwx";

    private TermsTest() {
    }

    static void run() {
        lettersAreNumbered();
        keysOfBothStations();
        keysAndMistsOfLateTicks();
        bothChannelsInBothDirections();
        hoursOfAllChannels();
        hoursOfLateTicks();
        channelThatIsNotTold();
        mistOfATick();
        symbolsOfAllLevels();
        framesOfAllSizes();
        urgencies();
        oneMessageAtATime();
        nothingBehindTheEnd();
        smallestOpenFrame();
        numberBeyondAllFrames();
        sumsThatWrap();
        keysThatWrap();
        severalGarbledSymbols();
        writtenButNotDone();
        limitsOfTries();
        whatAgrees();
    }

    private static void course(String name, LampRelay relay, int ticks, String log, String reasons) {
        Check.due(name + ": not over before", 0, relay.pass(ticks - 1));
        Check.due(name + ": over", 1, relay.pass(1));
        Check.dueText(name + ": log", log, Check.letters(relay, 0, true));
        Check.dueText(name + ": reasons", reasons, Check.reasons(relay, 0));
    }

    /** "Letters are numbered from 0 for a to 25 for z." */
    private static void lettersAreNumbered() {
        LampRelay relay = Check.loaded("relay 8 1;message 0 1 " + LETTERS + ";message 0 0 yz;");
        relay.pass(100);
        for (int i = 0; i < 26; i++) {
            Check.due("letter " + i, i, relay.letter(i / 24, i % 24, false));
            Check.due("letter " + i + " in the log", i, relay.letter(i / 24, i % 24, true));
        }
    }

    /** "of the keepers of this station who come at this tick or before it, the one who comes last; 0 without one" */
    private static void keysOfBothStations() {
        LampRelay relay = Check.loaded("relay 4 3;keeper 1 9999 25;keeper 0 7 0;keeper 0 5 9;keeper 1 0 3;"
                + "keeper 0 6 25;");
        int[][] due = {{0, 4, 0}, {0, 5, 9}, {0, 6, 25}, {0, 7, 0}, {0, 9999, 0}, {1, 0, 3}, {1, 9998, 3},
            {1, 9999, 25}, {1, 10000, 25}, {1, 20000, 25}};
        for (int[] of : due) {
            Check.due("key(" + of[0] + ", " + of[1] + ")", of[2], relay.key(of[0], of[1]));
        }
    }

    /** Ticks beyond those that a keeper or a mist can be told for, and beyond those that can be asked for. */
    private static void keysAndMistsOfLateTicks() {
        LampRelay edge = Check.loaded("relay 8 1;mist 9999 9999 9;");
        Check.passAll(edge, 9998);
        Check.send(edge, 0, 0, "abc");
        int[] lost = {0, 1, 1};
        for (int i = 0; i < lost.length; i++) {
            edge.pass(1);
            Check.due("lost at " + (9998 + i), lost[i], edge.state(7));
        }
        LampRelay late = Check.loaded("relay 2 1;channel 1 5 23 0;keeper 0 9999 13;mist 0 9999 9;");
        Check.passAll(late, 25008);
        Check.send(late, 0, 0, "ab");
        course("the last key stays", late, 5, "no", "33");
        Check.due("no mist covers it", 0, late.state(7));
        Check.due("time of the end", 25012, late.message(0, 9));
        Check.dueThrow("mist of the present", IllegalArgumentException.class, () -> late.mist(late.state(0)));
    }

    /** "There are 2 channels, 0 and 1; both can carry symbols in both directions." */
    private static void bothChannelsInBothDirections() {
        for (int sender = 0; sender < 2; sender++) {
            for (int channel = 0; channel < 2; channel++) {
                LampRelay relay = Check.loaded("relay 2 1;channel " + (1 - channel) + " 0 23 0;keeper " + sender
                        + " 0 9;keeper " + (1 - sender) + " 1 9;message " + sender + " 0 abc;");
                relay.pass(1);
                Check.due("frame of the channel that is open", 0, relay.channel(channel, 4));
                Check.due("frame of the other", -1, relay.channel(1 - channel, 4));
                course("from " + sender + " by " + channel, relay, 8, "abc", "000");
                Check.due("agree", 1, relay.state(5));
            }
        }
    }

    /** All opening and closing hours; channel 1 has them the other way round. */
    private static void hoursOfAllChannels() {
        for (int opening = 0; opening < 24; opening++) {
            for (int closing = 0; closing < 24; closing++) {
                hours(opening, closing);
            }
        }
    }

    private static void hours(int opening, int closing) {
        boolean[] open = new boolean[24];
        for (int hour = opening; hour != closing; hour = (hour + 1) % 24) {
            open[hour] = true;
        }
        LampRelay relay = Check.loaded("relay 1 9;channel 0 5 " + opening + " " + closing + ";channel 1 5 " + closing
                + " " + opening + ";message 0 0 " + LETTERS + ";");
        int sent = 0;
        for (int time = 0; time < 25; time++) {
            boolean isFirst = open[time % 24] || opening == closing;
            boolean isSecond = !open[time % 24] || opening == closing;
            String name = opening + " to " + closing + " at " + time;
            Check.due(name + ": channel 0", isFirst, relay.channel(0, 3) == 1);
            Check.due(name + ": channel 1", isSecond, relay.channel(1, 3) == 1);
            relay.pass(1);
            sent += (isFirst ? 1 : 0) + (isSecond ? 1 : 0);
            Check.due(name + ": sent", sent, relay.state(6));
        }
    }

    /** "the hour of a tick t is t modulo 24", as late as 512 calls can reach. */
    private static void hoursOfLateTicks() {
        LampRelay relay = Check.loaded("relay 4 3;channel 0 5 7 8;channel 1 5 8 7;");
        Check.passAll(relay, 50000);
        Check.due("time", 50000, relay.state(0));
        Check.due("hour 8", 0, relay.channel(0, 3));
        Check.due("hour 8", 1, relay.channel(1, 3));
        relay.pass(23);
        Check.due("hour 7", 1, relay.channel(0, 3));
        Check.due("hour 7", 0, relay.channel(1, 3));
    }

    /** "At first both are always open and have the power 5." */
    private static void channelThatIsNotTold() {
        for (int told = 0; told < 2; told++) {
            LampRelay relay = Check.loaded("relay 4 3;channel " + told + " 9 3 4;");
            relay.power(1 - told, 8);
            Check.load(relay, "relay 4 3;channel " + told + " 9 3 4;");
            int[] due = {5, 0, 0, 1, -1, -1};
            for (int what = 0; what < due.length; what++) {
                Check.due("channel that is not told", due[what], relay.channel(1 - told, what));
            }
            for (int hour = 0; hour < 24; hour++) {
                Check.due("always open", 1, relay.channel(1 - told, 3));
                relay.pass(1);
            }
        }
    }

    /** "the latest told mist that covers this tick, 0 without one": not the densest, nor one that begins later. */
    private static void mistOfATick() {
        LampRelay relay = Check.loaded("relay 4 3;mist 4 6 9;mist 2 8 1;mist 6 6 0;");
        int[] due = {0, 0, 1, 1, 1, 1, 0, 1, 1, 0};
        for (int tick = 0; tick < due.length; tick++) {
            Check.due("mist(" + tick + ")", due[tick], relay.mist(tick));
        }
        relay.fog(5, 9999, 4);
        int[] then = {0, 0, 1, 1, 1, 4, 4, 4, 4, 4};
        for (int tick = 0; tick < then.length; tick++) {
            Check.due("mist(" + tick + ") then", then[tick], relay.mist(tick));
        }
        Check.due("the last tick of a mist", 4, relay.mist(9999));
        Check.due("behind it", 0, relay.mist(10000));
    }

    /** "lost if the mist is greater than the power of the channel, garbled if both are equal, and otherwise right" */
    private static void symbolsOfAllLevels() {
        for (int level = 0; level <= 9; level++) {
            for (int power = 0; power <= 9; power++) {
                LampRelay relay = Check.loaded("relay 4 3;channel 1 0 23 0;channel 0 " + power + " 0 0;mist 0 0 "
                        + level + ";message 0 0 a;");
                relay.pass(1);
                String name = "mist " + level + ", power " + power;
                Check.due(name + ": sent", 1, relay.state(6));
                Check.due(name + ": lost", level > power, relay.state(7) == 1);
                Check.due(name + ": garbled", level == power, relay.state(8) == 1);
                Check.dueDouble(name + ": quality", level < power ? 1.0 : 0.0, relay.quality());
            }
        }
        LampRelay none = Check.loaded("relay 4 3;channel 0 0 0 0;channel 1 0 23 0;message 0 0 a;");
        none.pass(1);
        Check.due("power 0 without a mist", 1, none.state(8));
    }

    /** "frame 0 has the first letters, as many as the frame size tells ... (the last frame may have fewer)" */
    private static void framesOfAllSizes() {
        for (int size = 1; size <= 8; size++) {
            for (int length = 1; length <= 24; length++) {
                String letters = LETTERS.substring(24 - length);
                LampRelay relay = Check.loaded("relay " + size + " 1;message 0 0 " + letters + ";");
                int frames = 0;
                for (int left = length; left > 0; left -= size) {
                    frames++;
                }
                String name = "size " + size + ", length " + length;
                Check.due(name + ": frames", frames, relay.message(0, 3));
                Check.due(name + ": letters", length, relay.message(0, 2));
                Check.due(name + ": over", 1, relay.pass(100));
                Check.dueText(name, letters, Check.letters(relay, 0, true));
                Check.due(name + ": sent", length + 3 * frames, relay.state(6));
                Check.due(name + ": agree", 1, relay.state(5));
            }
        }
        lastFrameFails();
    }

    /** Frame 23 of 24: what is lost, its tries and its reason. */
    private static void lastFrameFails() {
        LampRelay relay = Check.loaded("relay 1 1;mist 45 45 9;message 0 0 " + LETTERS + ";");
        relay.pass(44);
        Check.due("frame of channel 0", -1, relay.channel(0, 4));
        relay.pass(1);
        Check.due("frame 22", 22, relay.channel(0, 4));
        Check.due("frame 23", 23, relay.channel(1, 4));
        Check.due("over", 1, relay.pass(3));
        Check.dueText("log", LETTERS.substring(0, 22) + "..", Check.letters(relay, 0, true));
        Check.dueText("reasons", "0000000000000000000000" + "22", Check.reasons(relay, 0));
        Check.due("tries", 2, relay.message(0, 7));
        Check.due("given up", 2, relay.state(9));
        Check.due("empty", 2, relay.message(0, 5));
    }

    /** "the waiting message with the greatest urgency ..., of several the one with the smallest index" */
    private static void urgencies() {
        LampRelay relay = Check.loaded("relay 8 1;message 0 0 a;message 1 9 a;message 0 5 a;message 1 9 a;"
                + "message 0 0 a;message 0 8 a;message 1 1 a;message 0 9 a;");
        int[] due = {1, 3, 7, 5, 2, 6, 0, 4};
        for (int k = 0; k < due.length; k++) {
            for (int rank = 0; rank < due.length - k; rank++) {
                Check.due("next(" + rank + ") behind " + k, due[k + rank], relay.next(rank));
            }
            Check.dueThrow("next behind the last", NoSuchElementException.class, () -> relay.next(relay.state(3)));
            relay.pass(1);
            Check.due("on the way", due[k], relay.state(2));
            Check.due("waiting", 7 - k, relay.state(3));
            relay.pass(3);
            Check.due("start of " + due[k], 4 * k, relay.message(due[k], 8));
            Check.due("end of " + due[k], 4 * k + 3, relay.message(due[k], 9));
        }
    }

    /** "If no message is on the way when a tick begins": a more urgent one waits for the end of the other. */
    private static void oneMessageAtATime() {
        LampRelay relay = Check.loaded("relay 1 1;message 0 0 abcd;message 0 0 e;");
        relay.pass(1);
        Check.send(relay, 1, 9, "f");
        Check.due("the urgent one is next", 2, relay.next(0));
        for (int time = 2; time <= 7; time++) {
            relay.pass(1);
            Check.due("on the way at " + time, 0, relay.state(2));
            Check.due("both wait at " + time, 2, relay.state(3));
        }
        relay.pass(1);
        Check.due("none at 8", -1, relay.state(2));
        Check.due("both wait at 8", 2, relay.state(3));
        relay.pass(1);
        Check.due("the urgent one at 9", 2, relay.state(2));
        Check.due("its start", 8, relay.message(2, 8));
    }

    /** "(even if it becomes over by channel 0: then nothing is done for channel 1)" */
    private static void nothingBehindTheEnd() {
        LampRelay relay = Check.loaded("relay 4 1;message 0 1 a;message 0 0 bc;");
        relay.pass(3);
        Check.due("over by channel 0", 1, relay.pass(1));
        Check.due("sent", 4, relay.state(6));
        Check.due("none on the way", -1, relay.state(2));
        Check.due("channel 1 is idle", -1, relay.channel(1, 4));
        relay.pass(1);
        Check.due("sent", 5, relay.state(6));
        Check.due("channel 0 begins with the next one", 0, relay.channel(0, 4));
        Check.due("its start", 4, relay.message(1, 8));
    }

    /** "If the channel is idle, it takes the open frame with the smallest index, if there is one" */
    private static void smallestOpenFrame() {
        LampRelay relay = Check.loaded("relay 2 3;channel 0 5 1 0;message 0 0 abcde;");
        relay.pass(1);
        Check.due("channel 0 is closed", -1, relay.channel(0, 4));
        Check.due("so channel 1 takes frame 0", 0, relay.channel(1, 4));
        Check.due("and has made step 0", 1, relay.channel(1, 5));
        relay.pass(1);
        Check.due("channel 0 takes frame 1", 1, relay.channel(0, 4));
        relay.pass(3);
        Check.due("channel 1 is ready", -1, relay.channel(1, 4));
        relay.pass(1);
        Check.due("channel 1 takes frame 2", 2, relay.channel(1, 4));
        Check.due("channel 0 is ready", -1, relay.channel(0, 4));
        relay.pass(1);
        Check.due("there is no open frame", -1, relay.channel(0, 4));
        Check.due("a step that does not come", -1, relay.channel(0, 5));
        Check.due("one symbol a tick", 12, relay.state(6));
        Check.due("over", 1, relay.pass(2));
        Check.due("sent", 14, relay.state(6));
    }

    /** "there is a frame of the number that came": 24, garbled from 23, is none. */
    private static void numberBeyondAllFrames() {
        LampRelay relay = Check.loaded("relay 1 1;channel 0 9 0 0;mist 44 44 5;mist 46 46 5;message 0 0 " + LETTERS
                + ";");
        relay.pass(48);
        Check.due("garbled", 2, relay.state(8));
        Check.due("over", 1, relay.state(4));
        Check.dueText("log", LETTERS.substring(0, 23) + ".", Check.letters(relay, 0, true));
        Check.due("its reason", 2, relay.why(0, 23));
        Check.due("the answer was yes", 0, relay.message(0, 7));
    }

    /** "modulo 26": the check symbol behind 25 is 0, and so is the sum of number and letters. */
    private static void sumsThatWrap() {
        course("garbled check", Check.loaded("relay 1 1;" + ALONE + "mist 0 0 3;mist 2 2 3;message 0 0 zq;"), 8,
                ".z", "23");
        course("25 and frame 1", Check.loaded("relay 1 1;" + ALONE + "message 0 0 az;"), 8, "az", "00");
        course("eight times 25", Check.loaded("relay 8 1;" + ALONE + "message 0 0 zzzzzzzz;"), 11, "zzzzzzzz",
                "00000000");
        course("garbled to 26", Check.loaded("relay 8 1;" + ALONE + "mist 8 9 3;message 0 0 aaaaaaaz;"), 11,
                "aaaaaaaa", "00000003");
    }

    /** "plus its key at this tick, modulo 26", and the key of the receiver off, below 0. */
    private static void keysThatWrap() {
        String keys = "keeper 0 0 25;keeper 1 0 25;";
        course("z plus 25", Check.loaded("relay 2 1;" + ALONE + keys + "message 0 0 az;"), 5, "az", "00");
        course("garbled above 26", Check.loaded("relay 2 1;" + ALONE + keys + "mist 2 3 3;message 1 0 az;"), 5, "aa",
                "03");
        course("a less 13", Check.loaded("relay 2 1;" + ALONE + "keeper 1 0 13;message 0 0 am;"), 5, "nz", "33");
        course("z plus 13", Check.loaded("relay 2 1;" + ALONE + "keeper 0 0 13;message 0 0 zn;"), 5, "ma", "33");
        course("keys that change within a frame", Check.loaded("relay 2 1;" + ALONE
                + "keeper 0 1 5;keeper 0 2 21;message 0 0 ab;"), 5, "fw", "33");
    }

    private static void severalGarbledSymbols() {
        course("two letters and the check", Check.loaded("relay 4 2;" + ALONE
                + "mist 1 2 3;mist 5 5 3;message 0 0 abcd;"), 14, "abcd", "0000");
        course("all but the answer", Check.loaded("relay 4 2;" + ALONE + "mist 0 5 3;message 0 0 abcd;"), 14, "abcd",
                "0000");
        course("two letters and the answer", Check.loaded("relay 4 2;" + ALONE
                + "mist 1 2 3;mist 6 6 3;message 0 0 abcd;"), 7, "....", "2222");
        course("one lost, two garbled", Check.loaded("relay 4 2;" + ALONE
                + "mist 1 1 3;mist 5 5 3;mist 3 3 4;message 0 0 abcd;"), 14, "abcd", "0000");
        LampRelay answers = Check.loaded("relay 1 1;channel 0 3 0 0;channel 1 3 0 0;mist 0 0 9;mist 3 3 3;"
                + "message 0 0 ab;");
        course("a no of each channel as yes", answers, 4, "..", "22");
        Check.due("both are done", 0, answers.state(9));
    }

    /** A yes that is lost or garbled: the log has the letters, the frame is in work again. */
    private static void writtenButNotDone() {
        LampRelay relay = Check.loaded("relay 4 3;" + ALONE + "mist 6 6 3;mist 13 13 4;message 0 0 abcd;");
        relay.pass(7);
        Check.dueText("log", "abcd", Check.letters(relay, 0, true));
        Check.dueText("reasons", "0000", Check.reasons(relay, 0));
        Check.due("not over", 1, relay.message(0, 4));
        Check.due("does not agree yet", 0, relay.state(5));
        Check.due("tries", 1, relay.message(0, 7));
        relay.pass(7);
        Check.due("tries", 2, relay.message(0, 7));
        Check.due("the third try", 1, relay.pass(7));
        Check.due("tries", 2, relay.message(0, 7));
        Check.due("agrees", 1, relay.state(5));
        Check.due("none is given up", 0, relay.state(9));
    }

    /** "it is given up if this is the limit, otherwise open again", for each limit. */
    private static void limitsOfTries() {
        for (int limit = 1; limit <= 9; limit++) {
            LampRelay relay = Check.loaded("relay 2 " + limit + ";" + ALONE + "mist 0 99 9;message 0 0 ab;");
            course("limit " + limit, relay, 5 * limit, "..", "22");
            Check.due("limit " + limit + ": tries", limit, relay.message(0, 7));
            Check.due("limit " + limit + ": given up", 1, relay.state(9));
            LampRelay last = Check.loaded("relay 2 " + limit + ";" + ALONE + "mist 0 99 9;mist " + 5 * (limit - 1)
                    + " 99 0;message 0 0 ab;");
            course("the last of " + limit, last, 5 * limit, "ab", "00");
            Check.due("the last of " + limit + ": tries", limit - 1, last.message(0, 7));
            Check.due("the last of " + limit + ": given up", 0, last.state(9));
        }
    }

    /** "A message agrees if it is over and all places of the log have the letter of the sender." */
    private static void whatAgrees() {
        LampRelay relay = Check.loaded("relay 4 2;" + ALONE + "message 0 0 abcd;");
        relay.pass(6);
        Check.dueText("log before the answer", "abcd", Check.letters(relay, 0, true));
        Check.due("not over, so it does not agree", 0, relay.state(5));
        relay.cancel(0);
        Check.due("cancelled, so it does not agree", 0, relay.state(5));
        Check.due("is not over", 0, relay.state(4));
        Check.dueText("its log stays", "abcd", Check.letters(relay, 0, true));
        relay.undo();
        relay.pass(1);
        Check.due("over, so it agrees", 1, relay.state(5));

        LampRelay empty = Check.loaded("relay 1 1;" + ALONE + "mist 0 0 9;message 0 0 ab;");
        empty.pass(8);
        Check.due("over with an empty place", 0, empty.state(4) == 1 ? empty.state(5) : -1);
        Check.due("empty places", 1, empty.message(0, 5));
        Check.due("wrong places", 0, empty.message(0, 6));
        LampRelay wrong = Check.loaded("relay 1 1;" + ALONE + "mist 1 2 3;message 0 0 ab;");
        wrong.pass(8);
        Check.due("over with a wrong place", 0, wrong.state(4) == 1 ? wrong.state(5) : -1);
        Check.due("empty places", 0, wrong.message(0, 5));
        Check.due("wrong places", 1, wrong.message(0, 6));
    }
}
