import java.util.ArrayList;
import java.util.List;

/**
 * All that can be seen of a hill by calls, a line each. The last of these calls change it, so that what
 * lies behind is seen too: moves told, what slots hold, what is on the tape. Some 260 calls at most.
 */
final class View {
    private static final int[] NO_NUMBERS = {};

    private final AgeHill hill;
    private final List<String> lines = new ArrayList<>();
    private int[] houses = NO_NUMBERS;
    private int[] families = NO_NUMBERS;

    private View(AgeHill hill) {
        this.hill = hill;
    }

    static List<String> of(AgeHill hill) {
        View view = new View(hill);
        view.takeNumbers();
        view.told();
        view.folk();
        view.law();
        view.least();
        view.wishes();
        view.whatMovesDo();
        view.whatYearsDo();
        view.whatSlotsHold();
        view.whatIsOnTheTape();
        return view.lines;
    }

    private void see(String call, long answer) {
        lines.add(call + " = " + answer);
    }

    private void see(String call, boolean answer) {
        lines.add(call + " = " + answer);
    }

    /** All numbers below n; of many just the first and the last ones, as a hill is good for 512 calls. */
    private static int[] numbersBelow(int n) {
        int[] numbers = new int[Math.min(n, 6)];
        for (int i = 0; i < numbers.length; i++) {
            numbers[i] = i < 4 ? i : n - numbers.length + i;
        }
        return numbers;
    }

    private void takeNumbers() {
        houses = numbersBelow(hill.count(0));
        families = numbersBelow(hill.count(13));
    }

    private void counts() {
        for (int what = 0; what <= 13; what++) {
            see("count(" + what + ")", hill.count(what));
        }
    }

    private void homes() {
        for (int h : houses) {
            see("house(" + h + ", 2)", hill.house(h, 2));
        }
    }

    private void told() {
        see("place()", hill.place());
        counts();
        for (int h : houses) {
            see("house(" + h + ", 0)", hill.house(h, 0));
            see("house(" + h + ", 1)", hill.house(h, 1));
        }
        homes();
    }

    private void folk() {
        for (int p : numbersBelow(hill.count(12))) {
            for (int what = 0; what <= 3; what++) {
                see("person(" + p + ", " + what + ")", hill.person(p, what));
            }
        }
        for (int f : families) {
            for (int what = 0; what <= 5; what++) {
                see("family(" + f + ", " + what + ")", hill.family(f, what));
            }
        }
    }

    private void law() {
        for (int what = 0; what <= 2; what++) {
            see("unlawful(" + what + ")", hill.unlawful(what));
        }
        for (int i = 0; i <= 4; i++) {
            see("pair(" + i + ")", hill.pair(i));
            see("row(" + i + ")", hill.row(i));
        }
    }

    private void least() {
        for (int what = 0; what <= 2; what++) {
            see("least(-1, " + what + ")", hill.least(-1, what));
        }
        for (int f : families) {
            see("leastAt(-1, " + f + ")", hill.leastAt(-1, f));
            see("least(" + f + ", 1)", hill.least(f, 1));
        }
        see("steps(7)", hill.steps(7));
        see("mean()", hill.mean());
        see("where(true)", hill.where(true));
        see("where(false)", hill.where(false));
        see("gap()", hill.gap());
        see("part(0)", hill.part(0));
        see("part(1)", hill.part(1));
    }

    private void wishes() {
        for (int f : families) {
            for (int h : houses) {
                see("worth(" + f + ", " + h + ")", hill.worth(f, h));
            }
            see("waits(" + f + ", 2)", hill.waits(f, 2));
        }
        see("change(0)", hill.change(0));
        see("change(1)", hill.change(1));
        see("marry(0, 1, true)", hill.marry(0, 1, true));
    }

    private void whatMovesDo() {
        see("judge()", hill.judge());
        see("done()", hill.done());
        see("forget()", hill.forget());
        homes();
    }

    private void whatYearsDo() {
        see("years(77, 2, 0)", hill.years(77, 2, 0));
        see("come(5, 5, false)", hill.come(5, 5, false));
        counts();
        homes();
    }

    private void whatSlotsHold() {
        for (int slot = 0; slot <= 1; slot++) {
            see("restore(" + slot + ")", hill.restore(slot));
            counts();
            homes();
            see("judge()", hill.judge());
        }
    }

    private void whatIsOnTheTape() {
        see("read()", hill.read());
        see("place()", hill.place());
        takeNumbers();
        counts();
    }
}
