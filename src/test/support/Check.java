import java.io.IOException;
import java.nio.file.Files;
import java.nio.file.Path;
import java.util.List;
import java.util.function.Consumer;
import java.util.function.Supplier;
import java.util.function.ToLongFunction;

/** Counts the answers that are not as due, tells the sentence that they stand for, and feeds texts of any length. */
final class Check {
    private static final Path DOCUMENT = Path.of("../shared/DOC.md");

    private final String name;
    private final String document;
    private String sentence = "";
    private int sentences;
    private int wrong;
    private int looked;

    Check(String name) {
        this.name = name;
        this.document = readDocument();
    }

    /** Null if the document is not here: then what is quoted can't be looked up. */
    private static String readDocument() {
        try {
            return Files.exists(DOCUMENT) ? inOneLine(Files.readString(DOCUMENT)) : null;
        } catch (IOException unreadable) {
            return null;
        }
    }

    private static String inOneLine(String text) {
        return text.replaceAll("\\s+", " ");
    }

    /** The answers that follow stand for these words, which must be the document's own. */
    void sentence(String words) {
        sentence = " \"" + words + "\":";
        sentences++;
        due("the document has these words", document == null || document.contains(inOneLine(words)), true);
    }

    void due(String call, long got, long due) {
        looked++;
        if (got != due) {
            wrong++;
            System.out.println(name + ":" + sentence + " " + shortened(call) + " answered " + got + ", due is " + due);
        }
    }

    void due(String call, boolean got, boolean due) {
        due(call, got ? 1 : 0, due ? 1 : 0);
    }

    private static String shortened(String call) {
        return call.length() > 160 ? call.substring(0, 70) + " .. " + call.substring(call.length() - 70) : call;
    }

    void end() {
        String quoted = sentences > 0 ? sentences + " sentences, " : "";
        System.out.println(name + ": " + quoted + looked + " answers, " + wrong + " wrong");
        if (wrong != 0) {
            System.exit(1);
        }
    }

    /** A refused call answers so, and all that can be seen afterwards is as on a twin without that call. */
    void refused(String call, Supplier<AgeHill> make, ToLongFunction<AgeHill> refused, long due) {
        AgeHill called = make.get();
        due(call, refused.applyAsLong(called), due);
        alike("after " + call, called, make.get());
    }

    /** Of the hill with something of everything. */
    void refused(String call, ToLongFunction<AgeHill> refused, long due) {
        refused(call, this::busyHill, refused, due);
    }

    /** Calls that only ask leave all as it is, whatever they answer. */
    void onlyAsks(String call, Consumer<AgeHill> asks) {
        AgeHill asked = busyHill();
        asks.accept(asked);
        alike("after " + call, asked, busyHill());
    }

    void alike(String when, AgeHill hill, AgeHill twin) {
        alike(when, hill, twin, 0);
    }

    void alikeButPlace(String when, AgeHill hill, AgeHill twin) {
        alike(when, hill, twin, 1);
    }

    /** The first line of a view is the place. */
    private void alike(String when, AgeHill hill, AgeHill twin, int from) {
        List<String> got = View.of(hill);
        List<String> due = View.of(twin);
        for (int i = from; i < Math.max(got.size(), due.size()); i++) {
            String one = i < got.size() ? got.get(i) : "nothing";
            String other = i < due.size() ? due.get(i) : "nothing";
            due(when + ": " + one + " is seen, due is " + other, one.equals(other), true);
        }
    }

    /**
     * Five houses, one on a top; families 2 (died) and 5 (joined 0) are no more, 4 lives nowhere; somebody
     * is lame, somebody lies, two moves are told, slot 0 is held, twenty bytes are on the tape, month 14.
     */
    AgeHill busyHill() {
        AgeHill hill = hill("house a 5;house b 60;house c 7;house d left 9;house e 3;step 5;lane 2;by mean;"
            + "cost=far*3+to+lame;worth=good+loved*50-to;comes=age/20;dies=age;"
            + "forgive if gap==1 and month<4;forgive if size==3;");
        int[] truly = {62, 30, 21, 75, 50, 9};
        int[] tells = {40, 33, 21, 75, 48, 9};
        for (int p = 0; p < truly.length; p++) {
            hill.come(truly[p], tells[p], p % 3 == 0);
        }
        hill.join(5, 0);
        hill.die(2);
        hill.live(0, 2);
        hill.live(3, 0);
        hill.live(1, 4);
        hill.love(0, 0);
        hill.love(1, 2);
        hill.months(14);
        hill.hold(0);
        hill.live(1, 1);
        // The first one told goes, a morning later, to where the other one goes away from.
        hill.move(3, 0, 0);
        hill.move(2, 3, 3);
        // "step 7;house zz 4;  "
        hill.feed(0x73746570, 0x20373b68, 0x6f757365, 0x207a7a20, 0x343b2020);
        return hill;
    }

    /** Feeds a text of 2,000 bytes at most to an empty tape and reads it. */
    int read(AgeHill hill, String text) {
        feed(hill, text);
        return hill.read();
    }

    void feed(AgeHill hill, String text) {
        int left = text.length();
        for (int at = 0; at < text.length(); at += 20) {
            int[] five = new int[5];
            for (int i = 0; i < 20; i++) {
                int sign = at + i < text.length() ? text.charAt(at + i) & 255 : ' ';
                five[i / 4] = five[i / 4] << 8 | sign;
            }
            hill.feed(five[0], five[1], five[2], five[3], five[4]);
            left -= 20;
        }
        hill.back(-left);
    }

    /** A new hill of a text that must have no fault. */
    AgeHill hill(String text) {
        AgeHill hill = new AgeHill();
        due("read() of " + text, read(hill, text), 0);
        return hill;
    }

    /** A text of houses alone: named a, b, .. */
    static String houses(int many) {
        StringBuilder text = new StringBuilder();
        for (int h = 0; h < many; h++) {
            text.append("house ").append((char) ('a' + h)).append(" ").append(h).append(";");
        }
        return text.toString();
    }

    /** Somebody who tells the truth comes and lives there: the number of both him and his family. */
    static int settleIn(AgeHill hill, int age, int house) {
        int who = hill.come(age, age, false);
        hill.live(who, house);
        return who;
    }
}
