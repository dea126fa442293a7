/** Counts the answers that are not as due, and feeds texts of any length. */
final class Check {
    private final String name;
    private int wrong;
    private int looked;

    Check(String name) {
        this.name = name;
    }

    void due(String call, long got, long due) {
        looked++;
        if (got != due) {
            wrong++;
            System.out.println(name + ": " + call + " answered " + got + ", due is " + due);
        }
    }

    void due(String call, boolean got, boolean due) {
        due(call, got ? 1 : 0, due ? 1 : 0);
    }

    void end() {
        System.out.println(name + ": " + looked + " answers, " + wrong + " wrong");
        if (wrong != 0) {
            System.exit(1);
        }
    }

    /** Feeds a text (its last bytes, if it is longer than the tape, not at all) and reads it. */
    int read(AgeHill hill, String text) {
        int left = text.length();
        for (int at = 0; at < text.length(); at += 20) {
            int[] five = new int[5];
            for (int i = 0; i < 20; i++) {
                int sign = at + i < text.length() ? text.charAt(at + i) & 255 : ' ';
                five[i / 4] = five[i / 4] << 8 | sign;
            }
            hill.feed(five[0], five[1], five[2], five[3], five[4]);
            left -= 20;
        }
        hill.back(-left);
        return hill.read();
    }

    /** A new hill of a text that must have no fault. */
    AgeHill hill(String text) {
        AgeHill hill = new AgeHill();
        due("read() of " + text, read(hill, text), 0);
        return hill;
    }

    /** A text of houses alone: named a, b, .. */
    static String houses(int many) {
        StringBuilder text = new StringBuilder();
        for (int h = 0; h < many; h++) {
            text.append("house ").append((char) ('a' + h)).append(" ").append(h).append(";");
        }
        return text.toString();
    }

    /** Somebody who tells the truth comes and lives there: the number of both him and his family. */
    static int settleIn(AgeHill hill, int age, int house) {
        int who = hill.come(age, age, false);
        hill.live(who, house);
        return who;
    }
}
