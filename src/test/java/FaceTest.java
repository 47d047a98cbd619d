import java.io.IOException;
import java.lang.reflect.Constructor;
import java.lang.reflect.Field;
import java.lang.reflect.Method;
import java.lang.reflect.Modifier;
import java.nio.file.Files;
import java.nio.file.Path;
import java.util.TreeSet;

/** The public face, and promise 1: a new object. */
final class FaceTest {
    private FaceTest() {
    }

    static void run() throws IOException {
        wordForWord();
        members();
        constants();
        newObject();
        newObjectsAreApart();
    }

    /** Each line under "The public face" stands in the class, which has no other public line. */
    private static void wordForWord() throws IOException {
        String document = Files.readString(Path.of("../shared/DOC.md"));
        String source = Files.readString(Path.of("src/main/java/LampRelay.java"));
        String words = source.replaceAll("\\s+", " ");
        int from = document.indexOf("```java\n") + 8;
        int lines = 0;
        for (String line : document.substring(from, document.indexOf("```", from)).split("\n")) {
            String due = line.strip().replaceAll("\\);$", ") {").replaceAll("Exception;$", "Exception {");
            if (line.startsWith("import")) {
                due = line;
            }
            Check.due("the class has: " + due, true, words.contains(due));
            lines += due.startsWith("public") ? 1 : 0;
        }
        Check.due("public lines of the document", 28, lines);
        Check.due("public lines of the class", lines, source.split("(?m)^ *public ", -1).length - 1);
    }

    private static void members() {
        TreeSet<String> found = new TreeSet<>();
        for (Method method : LampRelay.class.getDeclaredMethods()) {
            if (!Modifier.isPrivate(method.getModifiers()) && !method.isSynthetic()) {
                found.add(method.getReturnType() + " " + method.getName() + "/" + method.getParameterCount()
                        + "/" + method.getExceptionTypes().length);
            }
        }
        Check.dueText("methods", "[boolean cancel/1/2, double quality/0/0, int append/5/0, int channel/2/2, "
                + "int errorOffset/0/0, int fog/3/2, int foretold/1/1, int key/2/2, int leastPower/1/1, "
                + "int letter/3/2, int load/1/1, int message/2/2, int mist/1/1, int next/1/1, int pass/1/1, "
                + "int power/2/2, int relieve/2/3, int send/3/3, int state/1/1, int undo/0/0, int why/2/2, "
                + "long checksum/0/0]", found.toString());
        int fields = 0;
        for (Field field : LampRelay.class.getDeclaredFields()) {
            fields += Modifier.isPrivate(field.getModifiers()) ? 0 : 1;
        }
        Check.due("fields that are not private", 4, fields);
        Constructor<?>[] made = LampRelay.class.getDeclaredConstructors();
        Check.due("constructors", 1, made.length);
        Check.due("the constructor is public", true, Modifier.isPublic(made[0].getModifiers()));
        Check.due("the class is final", true, Modifier.isFinal(LampRelay.class.getModifiers()));
    }

    private static void constants() {
        Check.due("SYNTAX_ERROR", -2, LampRelay.SYNTAX_ERROR);
        Check.due("OUT_OF_RANGE", -3, LampRelay.OUT_OF_RANGE);
        Check.due("REPEATED", -4, LampRelay.REPEATED);
        Check.due("TOO_MANY", -5, LampRelay.TOO_MANY);
    }

    private static void newObject() {
        LampRelay relay = new LampRelay();
        int[] due = {0, 0, -1, 0, 0, 0, 0, 0, 0, 0, 0, 4, 3};
        for (int what = 0; what < due.length; what++) {
            Check.due("new state(" + what + ")", due[what], relay.state(what));
        }
        int[] ofChannel = {5, 0, 0, 1, -1, -1};
        for (int what = 0; what < ofChannel.length; what++) {
            Check.due("new channel(0, " + what + ")", ofChannel[what], relay.channel(0, what));
            Check.due("new channel(1, " + what + ")", ofChannel[what], relay.channel(1, what));
        }
        Check.due("new errorOffset", -1, relay.errorOffset());
        Check.due("new undo", -1, relay.undo());
        Check.due("new mist", 0, relay.mist(0));
        Check.due("new key of 0", 0, relay.key(0, 0));
        Check.due("new key of 1", 0, relay.key(1, 20000));
        Check.dueDouble("new quality", 0.0, relay.quality());
        Check.dueThrow("new buffer is empty", IllegalArgumentException.class, () -> relay.load(1));
        Check.due("new append", 20, relay.append(0, 0, 0, 0, 0));
    }

    private static void newObjectsAreApart() {
        LampRelay one = Check.loaded("relay 3 2;mist 0 5 4;keeper 0 0 7;message 1 2 abc;");
        one.power(0, 9);
        LampRelay other = new LampRelay();
        Check.due("messages of another object", 0, other.state(1));
        Check.due("power of another object", 5, other.channel(0, 0));
        Check.due("mist of another object", 0, other.mist(3));
        Check.due("key of another object", 0, other.key(0, 3));
    }
}
