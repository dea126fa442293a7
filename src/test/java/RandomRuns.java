import java.util.Random;

/**
 * Random runs of calls, each answer compared with that of the model, which tries everything out.
 * Arguments: the first run and how many (for longer hunts than the one of every landing).
 */
public final class RandomRuns {
    private static final String[] VARS =
        {"age", "size", "lame", "month", "from", "to", "far", "gap", "loved", "good"};
    private static final String[] SPICE = {"house", "left", "(", ")", ";", "=", "==", "<", "<=", "!=", "!", "not", "and",
        "or", "if", "forgive", "by", "mean", "x", "abcdefghi", "12345", "1234", "%", "A", "\u00e9", "cost", "step 0;", "0"};

    private final Random random;
    private final int run;
    private AgeHill hill = new AgeHill();
    private Model model = new Model();
    private int calls;
    private int wrong;
    private final StringBuilder told = new StringBuilder();

    private RandomRuns(int run) {
        this.run = run;
        this.random = new Random(run * 7919L + 13);
    }

    public static void main(String[] args) {
        int first = args.length > 0 ? Integer.parseInt(args[0]) : 0;
        int many = args.length > 1 ? Integer.parseInt(args[1]) : 1000;
        int wrong = 0;
        long calls = 0;
        for (int run = first; run < first + many && wrong < 5; run++) {
            RandomRuns it = new RandomRuns(run);
            it.go();
            wrong += it.wrong;
            calls += it.calls;
        }
        System.out.println("random runs: " + calls + " calls, " + wrong + " wrong");
        if (wrong != 0) {
            System.exit(1);
        }
    }

    private int below(int n) {
        return random.nextInt(n);
    }

    private boolean oneOf(int n) {
        return random.nextInt(n) == 0;
    }

    private void same(String call, long got, long due) {
        calls++;
        told.append("  ").append(call).append(" = ").append(due).append('\n');
        if (got != due && wrong++ == 0) {
            System.out.println("run " + run + ", call " + calls + ": answered " + got + ", due is " + due + "\n" + told);
        }
    }

    private void same(String call, boolean got, boolean due) {
        same(call, got ? 1 : 0, due ? 1 : 0);
    }

    private void go() {
        if (oneOf(4)) {
            for (int i = 0; i < 30; i++) {
                call();
            }
        }
        for (int texts = 0; texts < 3 && wrong == 0; texts++) {
            feedText(oneOf(3) ? spoiltText() : goodText());
            fill();
            for (int i = 0; i < 60 && wrong == 0; i++) {
                call();
            }
        }
    }

    // ---- texts ----

    private String unit(int depth) {
        int kind = below(depth > 0 ? 8 : 6);
        if (kind < 3) {
            return "" + (oneOf(4) ? below(10000) : below(12));
        }
        return kind < 6 ? VARS[below(VARS.length)] : "(" + e(depth - 1) + ")";
    }

    private String e(int depth) {
        StringBuilder text = new StringBuilder(unit(depth));
        for (int i = 0; i < 4 && oneOf(2); i++) {
            text.append("+-*/".charAt(below(4))).append(unit(depth));
        }
        return text.toString();
    }

    private String cond() {
        StringBuilder text = new StringBuilder();
        do {
            text.append(text.length() == 0 ? "" : oneOf(2) ? " and " : " or ");
            for (int i = 0; i < 3 && oneOf(3); i++) {
                text.append("not ");
            }
            String left = oneOf(2) ? "gap" : oneOf(3) ? "month" : e(2);
            String right = oneOf(2) ? "" + below(6) : e(2);
            text.append(left).append(new String[] {"==", "!=", "<", "<="}[below(4)]).append(right);
        } while (oneOf(2));
        return text.toString();
    }

    private String goodText() {
        StringBuilder text = new StringBuilder();
        int houses = oneOf(12) ? 22 + below(3) : oneOf(6) ? below(25) : below(9);
        boolean tops = oneOf(4);
        for (int h = 0; h < houses; h++) {
            String side = !tops ? oneOf(20) ? "left " : "" : new String[] {"", "left ", "right "}[below(3)];
            text.append("house ").append((char) ('a' + h)).append(oneOf(2) ? "q " : " ").append(side).append(below(100)).append(";\n");
        }
        String[] formulas = {"cost", "worth", "comes", "dies"};
        for (int i = 0; i < 5; i++) {
            int f = below(4);
            if (oneOf(2)) {
                text.append(formulas[f]).append('=').append(sensible(f)).append(';');
            }
        }
        text.append(oneOf(2) ? "step " + (1 + below(20)) + ";" : "");
        text.append(oneOf(2) ? "lane " + (1 + below(9)) + ";" : "");
        text.append(oneOf(2) ? "by mean;" : oneOf(2) ? "by\teldest\r;" : "");
        for (int i = 0; i < 6 && oneOf(2); i++) {
            text.append("forgive if ").append(cond()).append("; ");
        }
        return text.toString();
    }

    private String sensible(int formula) {
        if (oneOf(3)) {
            return e(4);
        }
        return switch (formula) {
            case 0 -> new String[] {"far", "far*size+lame*9", "to", "9-from", "(age-to)*(age-to)", "far/(from-to)"}[below(6)];
            case 1 -> new String[] {"good+loved*50-to", "loved*99", "good*age/9", "to+size", "99/(to-2)"}[below(5)];
            case 2 -> new String[] {"6-age/20", "age/9", "age-90", "9", "(age+3)/(age-40)"}[below(5)];
            default -> new String[] {"age", "age/5-3", "lame*50", "age*age/90", "100-age", "40/(age-50)"}[below(6)];
        };
    }

    private String spoiltText() {
        int kind = below(7);
        StringBuilder text = new StringBuilder(goodText());
        if (kind < 3 && text.length() > 0) {
            for (int i = 0; i <= below(3); i++) {
                text.insert(below(text.length() + 1), (oneOf(2) ? " " : "") + SPICE[below(SPICE.length)]);
            }
        } else if (kind == 3 && text.length() > 0) {
            int from = below(text.length());
            text.delete(from, Math.min(text.length(), from + 1 + below(6)));
        } else if (kind == 4) {
            tooManyTokens(text);
        } else if (kind == 5) {
            String more = oneOf(2) ? "house h 1;" : "forgive if gap<1;";
            for (int i = 0; i < 26; i++) {
                text.append(more.startsWith("f") ? more : "house " + (char) ('a' + i) + "z 1;");
                if (oneOf(40)) {
                    text.append("house a 1000;");
                }
            }
        } else {
            int deep = 5 + below(4);
            text.append("comes=").append("(".repeat(deep)).append("1").append(")".repeat(deep - (oneOf(5) ? 1 : 0))).append(";");
        }
        return text.length() > 2000 ? text.substring(0, 2000) : text.toString();
    }

    private void tooManyTokens(StringBuilder text) {
        text.setLength(0);
        String[] parts = {"step 1;", "by mean;", "cost=1+1;", "forgive if not not 1<2;", "house a 1;"};
        String part = parts[below(4)];
        int tokens = Model.tokens(part).size() - 1;
        int many = 400 / tokens;
        if (part.startsWith("forgive")) {
            text.append("forgive if ").append("not ".repeat(390 + below(9))).append("1<2;step 3;");
            return;
        }
        text.append(part.repeat(many - below(2)));
        for (int left = 0; left < 3 && oneOf(2); left++) {
            text.append(parts[below(5)]);
        }
    }

    private void feedText(String text) {
        int fed = (text.length() + 19) / 20 * 20;
        if (fed > 2000) {
            text = text.substring(0, 2000);
            fed = 2000;
        }
        clearTape();
        String padded = text + " ".repeat(fed - text.length());
        for (int at = 0; at < fed; at += 20) {
            int[] five = new int[5];
            for (int i = 0; i < 20; i++) {
                five[i / 4] = five[i / 4] << 8 | padded.charAt(at + i) & 255;
            }
            same("feed", hill.feed(five[0], five[1], five[2], five[3], five[4]), model.feed(five));
        }
        int tooMany = fed - text.length();
        same("back(" + tooMany + ")", hill.back(tooMany), model.back(tooMany));
        told.append("  text: ").append(text).append('\n');
        same("read()", hill.read(), model.read());
        same("place()", hill.place(), model.place());
    }

    private void clearTape() {
        int all = model.count(6);
        same("back(" + all + ")", hill.back(all), model.back(all));
    }

    /** People and homes enough that something happens. */
    private void fill() {
        int houses = model.count(0);
        int wanted = oneOf(5) ? houses - below(2) : below(houses + 1);
        boolean sorted = oneOf(3);
        for (int i = 0; i < wanted && wrong == 0; i++) {
            callCome();
            int f = model.count(13) - 1;
            int h = sorted ? i : below(Math.max(1, houses));
            for (int t = 0; t < houses && model.house(h, 2) != -2; t++) {
                h = (h + 1) % houses;
            }
            int house = h;
            same("live(" + f + ", " + house + ")", hill.live(f, house), model.live(f, house));
        }
        for (int i = 0; i < 3; i++) {
            if (oneOf(2)) {
                callJoin();
            }
        }
    }

    // ---- calls ----

    private int family() {
        return oneOf(15) ? below(34) - 2 : below(Math.max(1, model.count(13)));
    }

    private int houseNumber() {
        return oneOf(15) ? below(28) - 3 : below(Math.max(1, model.count(0)));
    }

    private int what(int most) {
        return oneOf(15) ? below(20) - 5 : below(most + 1);
    }

    private int homeless() {
        for (int t = 0; t < 6; t++) {
            int f = family();
            if (model.family(f, 3) == -2) {
                return f;
            }
        }
        return oneOf(2) ? -1 : family();
    }

    private void callCome() {
        int age = oneOf(20) ? below(120) - 10 : below(100);
        int tells = oneOf(2) ? age : oneOf(20) ? below(120) - 10 : below(100);
        boolean lame = oneOf(3);
        same("come(" + age + ", " + tells + ", " + lame + ")", hill.come(age, tells, lame), model.come(age, tells, lame));
    }

    private void callJoin() {
        int p = oneOf(15) ? below(64) - 2 : below(Math.max(1, model.count(12)));
        int f = family();
        same("join(" + p + ", " + f + ")", hill.join(p, f), model.join(p, f));
    }

    private void call() {
        switch (below(12)) {
            case 0, 1 -> changePeople();
            case 2, 3 -> changeHomes();
            case 4, 5 -> look();
            case 6, 7 -> plan();
            case 8 -> weigh();
            case 9 -> moves();
            case 10 -> wishes();
            default -> time();
        }
    }

    private void changePeople() {
        int p = oneOf(15) ? below(64) - 2 : below(Math.max(1, model.count(12)));
        switch (below(5)) {
            case 0, 1 -> callCome();
            case 2, 3 -> callJoin();
            default -> same("die(" + p + ")", hill.die(p), model.die(p));
        }
    }

    private void changeHomes() {
        int f = family();
        int h = oneOf(6) ? -1 : houseNumber();
        if (oneOf(2)) {
            same("live(" + f + ", " + h + ")", hill.live(f, h), model.live(f, h));
        } else {
            same("love(" + f + ", " + h + ")", hill.love(f, h), model.love(f, h));
        }
    }

    private void look() {
        int w = what(13);
        int i = oneOf(3) ? below(30) - 3 : below(4);
        int f = family();
        int h = houseNumber();
        switch (below(7)) {
            case 0 -> same("count(" + w + ")", hill.count(w), model.count(w));
            case 1 -> same("unlawful(" + w % 3 + ")", hill.unlawful(w % 3), model.unlawful(w % 3));
            case 2 -> same("pair(" + i + ")", hill.pair(i), model.pair(i));
            case 3 -> same("row(" + i + ")", hill.row(i), model.row(i));
            case 4 -> same("person(" + f + ", " + w % 5 + ")", hill.person(f, w % 5), model.person(f, w % 5));
            case 5 -> same("family(" + f + ", " + w % 7 + ")", hill.family(f, w % 7), model.family(f, w % 7));
            default -> same("house(" + h + ", " + w % 4 + ")", hill.house(h, w % 4), model.house(h, w % 4));
        }
    }

    private void plan() {
        int comes = oneOf(3) ? -1 : homeless();
        int w = what(2);
        int s = what(20);
        int f = oneOf(4) ? comes : family();
        switch (below(5)) {
            case 0, 1 -> same("least(" + comes + ", " + w + ")", hill.least(comes, w), model.least(comes, w));
            case 2 -> same("leastAt(" + comes + ", " + f + ")", hill.leastAt(comes, f), model.leastAt(comes, f));
            case 3 -> same("settle(" + comes + ")", hill.settle(comes), model.settle(comes));
            default -> same("steps(" + s + ")", hill.steps(s), model.steps(s));
        }
    }

    private void weigh() {
        int w = what(1);
        int f = family();
        int g = family();
        boolean second = oneOf(2);
        switch (below(6)) {
            case 0 -> same("mean()", hill.mean(), model.mean());
            case 1 -> {
                if (oneOf(2)) {
                    same("where(" + second + ")", hill.where(second), model.where(second));
                }
            }
            case 2 -> {
                if (oneOf(2)) {
                    same("gap()", hill.gap(), model.gap());
                }
            }
            case 3, 4 -> same("part(" + w + ")", hill.part(w), model.part(w));
            default -> same("marry(" + f + ", " + g + ", " + second + ")", hill.marry(f, g, second), model.marry(f, g, second));
        }
    }

    private void moves() {
        if (oneOf(3)) {
            same("settle(-1)", hill.settle(-1), model.settle(-1));
        }
        int many = oneOf(20) ? 41 : below(5);
        for (int i = 0; i < many; i++) {
            int m = oneOf(15) ? below(110) - 5 : below(3);
            int f = family();
            int h = houseNumber();
            same("move(" + m + ", " + f + ", " + h + ")", hill.move(m, f, h), model.move(m, f, h));
            same("judge()", hill.judge(), model.judge());
        }
        if (oneOf(2)) {
            same("done()", hill.done(), model.done());
        }
        if (oneOf(2)) {
            same("forget()", hill.forget(), model.forget());
        }
    }

    private void wishes() {
        int f = family();
        int h = houseNumber();
        int n = oneOf(8) ? below(12) - 1 : 1 + below(8);
        int w = what(1);
        switch (below(3)) {
            case 0 -> same("worth(" + f + ", " + h + ")", hill.worth(f, h), model.worth(f, h));
            case 1 -> same("change(" + w + ")", hill.change(w), model.change(w));
            default -> same("waits(" + f + ", " + n + ")", hill.waits(f, n), model.waits(f, n));
        }
    }

    private void time() {
        int n = oneOf(10) ? below(300) - 20 : below(20);
        int slot = oneOf(10) ? below(6) - 2 : below(2);
        int seed = random.nextInt();
        int many = oneOf(10) ? below(50) - 4 : 1 + below(6);
        int rule = oneOf(15) ? below(8) - 2 : below(4);
        switch (below(5)) {
            case 0 -> same("months(" + n + ")", hill.months(n), model.months(n));
            case 1 -> same("hold(" + slot + ")", hill.hold(slot), model.hold(slot));
            case 2 -> same("restore(" + slot + ")", hill.restore(slot), model.restore(slot));
            default -> {
                same("years(" + seed + ", " + many + ", " + rule + ")",
                    hill.years(seed, many, rule), model.years(seed, many, rule));
                checkHomes();
            }
        }
    }

    private void checkHomes() {
        for (int h = 0; h < model.count(0); h++) {
            same("house(" + h + ", 2)", hill.house(h, 2), model.house(h, 2));
        }
        for (int w = 0; w < 14; w++) {
            same("count(" + w + ")", hill.count(w), model.count(w));
        }
    }
}
