/** The sentences of part IV and of promises 26 to 33 that name a boundary, one by one. */
public final class EdgesOfMoves {
    private static final Check CHECK = new Check("EdgesOfMoves");
    private static final int MIN = Integer.MIN_VALUE;
    private static final int MAX = Integer.MAX_VALUE;

    public static void main(String[] args) {
        told();
        judged();
        done();
        worth();
        change();
        waits();
        marry();
        askedOnly();
        CHECK.end();
    }

    // ---- moves told ----

    private static void told() {
        fortyMoves();
        movesRefused();
        forgotten();
    }

    /** In houses 0, 1, 3 of five live 20, 30, 40; 50 lives nowhere, 60 is no more. */
    private static AgeHill three(String more) {
        AgeHill hill = CHECK.hill(Check.houses(5) + more);
        Check.settleIn(hill, 20, 0);
        Check.settleIn(hill, 30, 1);
        Check.settleIn(hill, 40, 3);
        hill.come(50, 50, false);
        hill.come(60, 60, false);
        hill.die(4);
        return hill;
    }

    private static AgeHill withMoves(int many) {
        AgeHill hill = three("");
        for (int i = 0; i < many; i++) {
            hill.move(i, 2, i % 2 == 0 ? 4 : 3);
        }
        return hill;
    }

    private static void fortyMoves() {
        CHECK.sentence("MOVES told, 40 at most, numbered from 0 on: a morning (0 .. 99), a FAMILY, a HOUSE.");
        AgeHill hill = three("");
        for (int i = 0; i < 40; i++) {
            CHECK.due("move", hill.move(i == 39 ? 99 : i, 2, i % 2 == 0 ? 4 : 3), i);
        }
        CHECK.due("told", hill.count(5), 40);
        CHECK.due("a 41st", hill.move(0, 2, 4), -1);
        CHECK.due("all forty are good", hill.judge(), 0);
        CHECK.due("all forty are made", hill.done(), 40);
        CHECK.due("by them it is where it was", hill.family(2, 3), 3);
        CHECK.due("numbered from 0 on again", hill.move(0, 2, 4), 0);
        AgeHill last = withMoves(39);
        CHECK.due("the 40th", last.move(99, 3, 2), 39);
        CHECK.due("the 40th is wrong", last.judge(), 391);
    }

    private static void movesRefused() {
        CHECK.sentence("A MOVE is told: its number. NONE, and nothing happens: 40 are there, no such morning, FAMILY (that came), HOUSE.");
        for (int morning : new int[] {-1, 100, MIN, MAX}) {
            CHECK.refused("move on morning " + morning, hill -> hill.move(morning, 0, 1), -1);
        }
        for (int family : new int[] {-1, 6, 30, MIN, MAX}) {
            CHECK.refused("move of family " + family, hill -> hill.move(0, family, 1), -1);
        }
        for (int house : new int[] {-1, 5, 24, MIN, MAX}) {
            CHECK.refused("move to house " + house, hill -> hill.move(0, 0, house), -1);
        }
        CHECK.refused("a 41st", () -> withMoves(40), hill -> hill.move(0, 2, 4), -1);
        CHECK.refused("nobody came", () -> CHECK.hill(Check.houses(1)), hill -> hill.move(0, 0, 0), -1);
        AgeHill hill = CHECK.busyHill();
        CHECK.due("on morning 0 the first FAMILY to HOUSE 0", hill.move(0, 0, 0), 2);
        CHECK.due("on morning 99 the last FAMILY, that is no more, to the last HOUSE", hill.move(99, 5, 4), 3);
        CHECK.due("one that lives nowhere", hill.move(50, 4, 4), 4);
        AgeHill noHouse = new AgeHill();
        noHouse.come(5, 5, false);
        CHECK.due("no HOUSE at all", noHouse.move(0, 0, 0), -1);
        CHECK.due("and none is told", noHouse.count(5), 0);
    }

    private static void forgotten() {
        CHECK.sentence("All MOVES told are forgotten: how many.");
        CHECK.due("none", new AgeHill().forget(), 0);
        for (int many : new int[] {1, 39, 40}) {
            AgeHill hill = withMoves(many);
            CHECK.due("forget", hill.forget(), many);
            CHECK.due("none is told", hill.count(5), 0);
            CHECK.due("forget again", hill.forget(), 0);
            CHECK.due("judge", hill.judge(), 0);
            CHECK.due("done", hill.done(), 0);
            CHECK.due("no one moved", hill.family(2, 3), 3);
            CHECK.due("there is room again", hill.move(0, 2, 4), 0);
        }
    }

    // ---- judged ----

    private static void judged() {
        noMoreOrNowhere();
        laneMoves();
        notEmptyByThen();
        unlawfulAtTheEnd();
        leastReason();
        firstThatIsSo();
        noneIsWrong();
    }

    /** Moves of a morning, a family and a house each; judge() and done() of them, and that judging moves no one. */
    private static void judge(int due, String more, int... moves) {
        AgeHill hill = three(more);
        for (int i = 0; i < moves.length; i += 3) {
            CHECK.due("move", hill.move(moves[i], moves[i + 1], moves[i + 2]), i / 3);
        }
        String told = more + java.util.Arrays.toString(moves);
        CHECK.due("judge of " + told, hill.judge(), due);
        int[] homes = {0, 1, 3, -2};
        for (int f = 0; f < homes.length; f++) {
            CHECK.due("where " + f + " lives after judge of " + told, hill.family(f, 3), homes[f]);
        }
        CHECK.due("still told", hill.count(5), moves.length / 3);
        CHECK.due("is done of " + told, hill.done() != -2, due == 0);
    }

    private static void noMoreOrNowhere() {
        CHECK.sentence("1 the FAMILY is no more or lives nowhere");
        judge(0, "", 0, 2, 4);
        judge(1, "", 0, 3, 4);
        judge(1, "", 0, 4, 4);
        AgeHill dies = three("");
        dies.move(0, 2, 4);
        CHECK.due("lives", dies.judge(), 0);
        dies.die(2);
        CHECK.due("is no more by now", dies.judge(), 1);
        AgeHill lives = three("");
        lives.move(0, 3, 4);
        lives.live(3, 2);
        lives.live(2, -1);
        CHECK.due("lives by now", lives.judge(), 0);
    }

    private static void laneMoves() {
        CHECK.sentence("2 LANE MOVES were on that morning already");
        String free = "forgive if 1==1;";
        judge(0, free + "lane 1;", 5, 2, 4);
        judge(12, free + "lane 1;", 5, 2, 4, 5, 1, 2);
        judge(0, free + "lane 1;", 5, 2, 4, 6, 1, 2);
        judge(0, free + "lane 2;", 5, 2, 4, 5, 1, 2);
        judge(22, free + "lane 2;", 5, 2, 4, 5, 1, 2, 5, 0, 1);
        judge(0, free, 5, 2, 4, 5, 1, 2, 5, 0, 1);
        judge(32, free, 5, 2, 4, 5, 1, 2, 5, 0, 1, 5, 2, 3);
        judge(0, free, 5, 2, 4, 5, 1, 2, 5, 0, 1, 6, 2, 3);
        judge(22, free + "lane 2;", 7, 2, 3, 7, 1, 2, 7, 0, 1, 4, 2, 4);
        int[] nine = new int[30];
        for (int i = 0; i < 10; i++) {
            nine[3 * i + 1] = 2;
            nine[3 * i + 2] = i % 2 == 0 ? 4 : 3;
        }
        judge(0, "lane 9;", java.util.Arrays.copyOf(nine, 27));
        judge(92, "lane 9;", nine);
    }

    private static void notEmptyByThen() {
        CHECK.sentence("3 the HOUSE is not empty by then");
        String free = "forgive if 1==1;";
        judge(3, free, 0, 0, 1);
        judge(3, free, 0, 0, 0);
        judge(0, free, 0, 1, 2, 0, 0, 1);
        judge(3, free, 0, 0, 1, 0, 1, 2);
        judge(0, free, 1, 0, 1, 0, 1, 2);
        judge(3, free, 0, 0, 1, 1, 1, 2);
        judge(13, free, 0, 0, 2, 0, 1, 2);
        judge(13, free, 0, 0, 2, 99, 1, 2);
        judge(0, free, 0, 0, 2, 0, 0, 0, 99, 0, 2);
    }

    private static void unlawfulAtTheEnd() {
        CHECK.sentence("at the end of each morning that has MOVES 4: something is UNLAWFUL (told with the last MOVE of that morning)");
        judge(4, "", 0, 0, 2);
        judge(0, "", 0, 0, 2, 0, 0, 0);
        judge(4, "", 0, 0, 2, 1, 0, 0);
        judge(14, "", 3, 2, 4, 3, 0, 2);
        judge(14, "", 3, 0, 2, 3, 2, 4);
        judge(24, "", 4, 2, 3, 3, 1, 2, 3, 0, 4);
        judge(34, "lane 9;", 3, 2, 4, 3, 0, 2, 5, 1, 3, 3, 2, 3);
        judge(0, "forgive if gap==10;", 0, 0, 2);
        judge(4, "forgive if gap==9;", 0, 0, 2);
        AgeHill hill = three("");
        hill.live(0, 4);
        CHECK.due("UNLAWFUL, but no morning has MOVES", hill.judge(), 0);
        hill.move(9, 1, 2);
        CHECK.due("UNLAWFUL ahead and after", hill.judge(), 4);
        hill.move(9, 0, 0);
        CHECK.due("UNLAWFUL ahead alone", hill.judge(), 0);
    }

    private static void leastReason() {
        CHECK.sentence("The first that is so, with its reason (the least of one MOVE); else 0.");
        judge(11, "lane 1;", 3, 2, 4, 3, 4, 0);
        judge(11, "lane 1;", 3, 2, 4, 3, 3, 0);
        judge(12, "lane 1;", 3, 2, 4, 3, 1, 0);
        judge(1, "", 3, 4, 0);
        judge(13, "", 3, 0, 2, 3, 1, 3);
        judge(11, "", 3, 0, 2, 3, 4, 3);
    }

    private static void firstThatIsSo() {
        CHECK.sentence("JUDGED from how all lives now, morning by morning, by their numbers within one");
        judge(3, "", 5, 0, 1, 6, 3, 4);
        judge(11, "", 6, 0, 1, 5, 3, 4);
        judge(3, "", 5, 0, 1, 5, 3, 4);
        judge(4, "", 5, 0, 2, 6, 3, 4);
        judge(21, "", 99, 0, 1, 99, 0, 1, 0, 3, 4);
        judge(0, "", 9, 1, 3, 8, 2, 4);
        judge(3, "", 8, 1, 3, 9, 2, 4);
        judge(13, "", 0, 2, 4, 99, 0, 1);
    }

    private static void noneIsWrong() {
        CHECK.sentence("JUDGED: 10 * the MOVE + its reason; 0: none is wrong.");
        CHECK.due("no MOVES", three("").judge(), 0);
        CHECK.due("no hill", new AgeHill().judge(), 0);
        judge(0, "", 0, 2, 4);
        judge(11, "", 0, 2, 4, 1, 3, 2);
        AgeHill full = withMoves(39);
        full.move(99, 2, 3);
        CHECK.due("the 40th to its own HOUSE", full.family(2, 3), 3);
        CHECK.due("judge", full.judge(), 0);
        full.forget();
        for (int i = 0; i < 39; i++) {
            full.move(50, 2, 4);
        }
        full.move(0, 0, 1);
        CHECK.due("the 40th, on the first morning", full.judge(), 393);
    }

    // ---- done ----

    private static AgeHill wrongMoves(String more, int... moves) {
        AgeHill hill = three(more);
        for (int i = 0; i < moves.length; i += 3) {
            hill.move(moves[i], moves[i + 1], moves[i + 2]);
        }
        return hill;
    }

    private static void done() {
        doneOfAll();
        doneOfCosts();
        doneOfWrong();
    }

    private static void doneOfAll() {
        CHECK.sentence("DONE: all MOVES are made, if none is wrong; the sum of their COSTS; no MOVES are told then.");
        CHECK.due("none", new AgeHill().done(), 0);
        AgeHill hill = wrongMoves("cost=from*100+to*10+far;", 7, 0, 1, 6, 1, 2, 5, 2, 4, 6, 1, 3);
        CHECK.due("done", hill.done(), 341 + 121 + 231 + 11);
        int[] in = {-2, 0, -2, 1, 2};
        for (int h = 0; h < 5; h++) {
            CHECK.due("house(" + h + ", 2)", hill.house(h, 2), in[h]);
        }
        CHECK.due("told", hill.count(5), 0);
        CHECK.due("done again", hill.done(), 0);
        CHECK.due("nothing more moves", hill.house(1, 2), 0);
    }

    private static void doneOfCosts() {
        CHECK.sentence("each held to 0 .. 9999");
        CHECK.due("two of the most", wrongMoves("cost=9999+far;", 0, 2, 4, 1, 2, 3).done(), 2 * 9999);
        CHECK.due("9999", wrongMoves("cost=9998+far;", 0, 2, 4).done(), 9999);
        CHECK.due("9998", wrongMoves("cost=9997+far;", 0, 2, 4).done(), 9998);
        CHECK.due("0", wrongMoves("cost=far-1;", 0, 2, 4).done(), 0);
        CHECK.due("-1", wrongMoves("cost=far-2;", 0, 2, 4).done(), 0);
        CHECK.due("-1 and 1", wrongMoves("cost=from*2-7;", 0, 2, 4, 1, 2, 3).done(), 1);
        AgeHill most = CHECK.hill(Check.houses(2) + "cost=9999;");
        Check.settleIn(most, 5, 0);
        for (int i = 0; i < 40; i++) {
            most.move(i, 0, 1 - i % 2);
        }
        CHECK.due("forty of the most", most.done(), 40 * 9999);
    }

    private static void doneOfWrong() {
        CHECK.sentence("DONE: the sum of COSTS; -2, and nothing happens: one is wrong.");
        CHECK.refused("done of the first wrong", () -> wrongMoves("", 0, 3, 4), AgeHill::done, -2);
        CHECK.refused("done of the last wrong", () -> wrongMoves("", 0, 2, 4, 1, 1, 3, 2, 0, 3), AgeHill::done, -2);
        CHECK.refused("done of one too many", () -> wrongMoves("lane 1;", 0, 2, 4, 0, 1, 2), AgeHill::done, -2);
        CHECK.refused("done of an UNLAWFUL end", () -> wrongMoves("", 0, 2, 4, 5, 0, 2), AgeHill::done, -2);
    }

    // ---- worth and change ----

    private static void worth() {
        worthHeld();
        worthAsked();
    }

    private static void worthOf(String formula, int due) {
        AgeHill hill = CHECK.hill("house a 1;house b 7;worth=" + formula + ";");
        hill.come(9, 5, true);
        CHECK.due("worth=" + formula, hill.worth(0, 1), due);
    }

    private static void worthHeld() {
        CHECK.sentence("WORTH of a HOUSE to a FAMILY: what WORTH says (VARS good, age, size, lame, month; to: the HOUSE; "
            + "loved: 1 if it LOVES it), held to 0 .. 999.");
        worthOf("0-1", 0);
        worthOf("0", 0);
        worthOf("1", 1);
        worthOf("998", 998);
        worthOf("999", 999);
        worthOf("1000", 999);
        worthOf("8192*8192*32", 0);
        worthOf("8192*8192*32-1", 999);
        worthOf("good*100+age*10+size+lame", 700 + 50 + 1 + 1);
        worthOf("to*10+month", 10);
        AgeHill hill = CHECK.hill("house a 1;house b 7;worth=loved+5;");
        hill.come(9, 5, true);
        hill.come(9, 5, true);
        hill.love(0, 0);
        hill.love(1, 1);
        CHECK.due("the one that it LOVES", hill.worth(0, 0), 6);
        CHECK.due("the other one", hill.worth(0, 1), 5);
        CHECK.due("the last one that it LOVES", hill.worth(1, 1), 6);
        hill.love(1, -1);
        CHECK.due("none", hill.worth(1, 1), 5);
    }

    private static void worthAsked() {
        CHECK.sentence("WORTH; NONE: no such ones.");
        AgeHill hill = CHECK.busyHill();
        for (int f : new int[] {-1, 2, 5, 6, 30, MIN, MAX}) {
            CHECK.due("worth(" + f + ", 0)", hill.worth(f, 0), -1);
        }
        for (int h : new int[] {-1, -2, 5, 24, MIN, MAX}) {
            CHECK.due("worth(0, " + h + ")", hill.worth(0, h), -1);
        }
        CHECK.due("the first of the first, which it LOVES", hill.worth(0, 0), 55);
        CHECK.due("the last of one that lives nowhere", hill.worth(4, 4), 0);
        CHECK.due("the one before", hill.worth(4, 3), 6);
        CHECK.due("of no hill", new AgeHill().worth(0, 0), -1);
    }

    private static void change() {
        changeOfOneKey();
        changeOfMost();
        changeAsked();
    }

    private static void changeOfOneKey() {
        CHECK.sentence("CHANGE: of two FAMILIES with one KEY that live");
        for (int other : new int[] {29, 30, 39, 40}) {
            AgeHill hill = CHECK.hill(Check.houses(2) + "step 10;worth=loved;");
            Check.settleIn(hill, 35, 0);
            Check.settleIn(hill, other, 1);
            hill.love(0, 1);
            CHECK.due("35 and " + other, hill.change(0), other / 10 == 3 ? 1 : -2);
            hill.live(0, -1);
            CHECK.due("one lives nowhere", hill.change(0), -2);
            hill.live(0, 0);
            hill.live(1, -1);
            CHECK.due("the other one lives nowhere", hill.change(0), -2);
            hill.die(1);
            CHECK.due("the other one is no more", hill.change(0), -2);
        }
    }

    private static void changeOfMost() {
        CHECK.sentence("the two with the most (more than 0); of alike ones the first by the lesser number, then the other's.");
        AgeHill hill = CHECK.hill(Check.houses(4) + "worth=loved;");
        for (int h = 0; h < 4; h++) {
            Check.settleIn(hill, 50, h);
        }
        CHECK.due("none is more", hill.change(0), -2);
        CHECK.due("who", hill.change(1), -2);
        hill.love(2, 3);
        CHECK.due("1 more", hill.change(0), 1);
        CHECK.due("who", hill.change(1), 203);
        hill.love(0, 3);
        CHECK.due("alike, by the lesser number", hill.change(1), 3);
        hill.love(1, 0);
        CHECK.due("alike, by the other's number", hill.change(1), 1);
        hill.love(3, 2);
        CHECK.due("2 more", hill.change(0), 2);
        CHECK.due("the most", hill.change(1), 203);
        AgeHill less = CHECK.hill(Check.houses(2) + "worth=10-loved*9;");
        Check.settleIn(less, 50, 0);
        Check.settleIn(less, 50, 1);
        less.love(0, 0);
        CHECK.due("more by what it does not want", less.change(0), 9);
        less.love(0, 1);
        CHECK.due("less", less.change(0), -2);
        less.love(1, 1);
        CHECK.due("as much less as more", less.change(0), -2);
        AgeHill held = CHECK.hill(Check.houses(2) + "worth=998+loved*50;");
        Check.settleIn(held, 50, 0);
        Check.settleIn(held, 50, 1);
        held.love(0, 1);
        CHECK.due("WORTHS as they are held", held.change(0), 1);
    }

    private static void changeAsked() {
        CHECK.sentence("CHANGE: what 0 by how much, 1: 100 * the lesser FAMILY + the other one. -2: none is more; NONE: no such what.");
        AgeHill most = CHECK.hill(Check.houses(24) + "worth=loved*999;");
        for (int i = 0; i < 30; i++) {
            most.come(50, 50, false);
        }
        most.live(29, 0);
        most.live(28, 23);
        most.love(29, 23);
        most.love(28, 0);
        CHECK.due("the most that can be", most.change(0), 2 * 999);
        CHECK.due("the last two", most.change(1), 2829);
        for (int what : new int[] {-1, 2, MIN, MAX}) {
            CHECK.due("change(" + what + ")", most.change(what), -1);
            CHECK.due("change(" + what + ") of none", new AgeHill().change(what), -1);
        }
        CHECK.due("change(0) of none", new AgeHill().change(0), -2);
        CHECK.due("change(1) of none", new AgeHill().change(1), -2);
    }

    // ---- waits ----

    private static void waits() {
        diesHeld();
        diesByAge();
        leastNumber();
        waitsCannot();
        waitsAsked();
    }

    /** Somebody of age 40 lives in the HOUSE that one who lives nowhere LOVES. */
    private static AgeHill waiting(String dies) {
        AgeHill hill = CHECK.hill(Check.houses(2) + "dies=" + dies + ";");
        hill.come(9, 40, true);
        hill.live(0, 0);
        hill.come(70, 70, false);
        hill.love(1, 0);
        return hill;
    }

    private static void diesHeld() {
        CHECK.sentence("what DIES says (VARS age: a, lame 1 or 0; held to 0 .. 100)");
        String[] dies = {"0-1", "0", "1", "99", "100", "101", "9999", "8192*8192*32", "age", "lame*3", "age*lame+lame"};
        int[] ways = {0, 0, 1, 99, 100, 100, 100, 0, 40, 3, 41};
        for (int i = 0; i < dies.length; i++) {
            CHECK.due("dies=" + dies[i], waiting(dies[i]).waits(1, 1), ways[i]);
        }
    }

    private static void diesByAge() {
        CHECK.sentence("in the next YEAR by a + 1, and so on");
        long ways = 1;
        long lives = 1;
        for (int n = 1; n <= 8; n++) {
            ways *= 100;
            lives *= 100 - (n + 2);
            CHECK.due(n + " YEARS", waiting("age-37").waits(1, n), ways - lives);
        }
        CHECK.sentence("WAITS of a FAMILY for n YEARS (1 .. 8)");
        CHECK.due("0 YEARS", waiting("age-37").waits(1, 0), -1);
        CHECK.due("9 YEARS", waiting("age-37").waits(1, 9), -1);
        CHECK.due("in the second YEAR alone", waiting("(age-40)*100").waits(1, 2), 10000);
        CHECK.due("not in the first", waiting("(age-40)*100").waits(1, 1), 0);
        CHECK.due("in the eighth YEAR alone", waiting("(age-46)*7").waits(1, 8), 7L * 100_000_000_000_000L);
        CHECK.due("not in the first seven", waiting("(age-46)*7").waits(1, 7), 0);
        CHECK.due("surely in 8", waiting("100").waits(1, 8), 10_000_000_000_000_000L);
        CHECK.due("hardly in 8", waiting("1").waits(1, 8), 10_000_000_000_000_000L - 99L * 99 * 99 * 99 * 99 * 99 * 99 * 99);
    }

    private static void leastNumber() {
        CHECK.sentence("by how many of 100 to the n ways the PERSON of the least number in the HOUSE that it LOVES dies in that time");
        AgeHill hill = CHECK.hill(Check.houses(2) + "dies=age;");
        int[] ages = {10, 20, 30, 40};
        for (int age : ages) {
            hill.come(age, age, false);
        }
        hill.live(2, 1);
        hill.love(3, 1);
        CHECK.due("he alone", hill.waits(3, 1), 30);
        hill.join(1, 2);
        CHECK.due("a lesser number", hill.waits(3, 1), 20);
        hill.join(0, 2);
        CHECK.due("the least number", hill.waits(3, 1), 10);
        hill.die(0);
        CHECK.due("he is no more", hill.waits(3, 1), 20);
        hill.months(12);
        CHECK.due("a YEAR on", hill.waits(3, 1), 21);
    }

    private static void waitsCannot() {
        CHECK.sentence("-2: nobody lives there, or it is its own.");
        AgeHill hill = waiting("1");
        hill.live(0, 1);
        CHECK.due("nobody lives there", hill.waits(1, 1), -2);
        hill.live(1, 0);
        CHECK.due("it is its own", hill.waits(1, 1), -2);
        hill.love(1, 1);
        CHECK.due("another one's", hill.waits(1, 1), 1);
        hill.die(0);
        CHECK.due("nobody lives there", hill.waits(1, 1), -2);
    }

    private static void waitsAsked() {
        CHECK.sentence("WAITS: how many ways; -2; -1: no such ones, it LOVES none.");
        for (int n : new int[] {0, 9, -1, MIN, MAX}) {
            CHECK.due("waits(1, " + n + ")", waiting("1").waits(1, n), -1);
            AgeHill own = waiting("1");
            own.live(0, 1);
            CHECK.due("waits(1, " + n + ") ahead of -2", own.waits(1, n), -1);
        }
        for (int f : new int[] {-1, 2, 30, MIN, MAX}) {
            CHECK.due("waits(" + f + ", 1)", waiting("1").waits(f, 1), -1);
        }
        AgeHill hill = waiting("1");
        CHECK.due("it LOVES none", hill.waits(0, 1), -1);
        hill.love(1, -1);
        CHECK.due("it LOVES none by now", hill.waits(1, 1), -1);
        hill.love(1, 0);
        CHECK.due("1 YEAR", hill.waits(1, 1), 1);
        CHECK.due("8 YEARS", hill.waits(1, 8) > 0, true);
        hill.die(1);
        CHECK.due("it is no more", hill.waits(1, 1), -1);
        CHECK.due("of no hill", new AgeHill().waits(0, 1), -1);
    }

    // ---- marry ----

    private static void marry() {
        marryInOne();
        marrySix();
        marryAsked();
    }

    private static void marryInOne() {
        CHECK.sentence("MARRY two FAMILIES that live: as if they were one FAMILY that lives in the one's HOUSE "
            + "(the other's HOUSE is empty): how many move ALL ANEW then.");
        AgeHill hill = CHECK.hill(Check.houses(3));
        Check.settleIn(hill, 50, 0);
        Check.settleIn(hill, 40, 1);
        Check.settleIn(hill, 45, 2);
        CHECK.due("all anew", hill.least(-1, 0), 3);
        CHECK.due("in HOUSE 0", hill.marry(0, 1, false), 2);
        CHECK.due("in HOUSE 1", hill.marry(0, 1, true), 1);
        CHECK.due("in HOUSE 1", hill.marry(1, 0, false), 1);
        CHECK.due("in HOUSE 0", hill.marry(1, 0, true), 2);
        CHECK.due("in HOUSE 2", hill.marry(0, 2, true), 0);
        AgeHill liars = CHECK.hill(Check.houses(3));
        liars.come(10, 50, false);
        liars.come(10, 40, false);
        liars.come(99, 45, false);
        for (int f = 0; f < 3; f++) {
            liars.live(f, f);
        }
        CHECK.due("by told ages", liars.marry(0, 1, true), 1);
        CHECK.due("by told ages", liars.marry(0, 2, true), 0);
        AgeHill two = CHECK.hill(Check.houses(2));
        Check.settleIn(two, 50, 0);
        Check.settleIn(two, 40, 1);
        CHECK.due("one alone is left", two.marry(0, 1, false), 0);
        CHECK.due("one alone is left", two.marry(0, 1, true), 0);
        AgeHill full = CHECK.hill(Check.houses(24));
        for (int h = 0; h < 24; h++) {
            Check.settleIn(full, 90 - h, h);
        }
        // 23 are left: he of 90 must be highest; of the others one may stay.
        CHECK.due("two of 24 upside down", full.marry(0, 1, false), 22);
        CHECK.due("the last two of them", full.marry(22, 23, true), 22);
    }

    private static AgeHill sizes(int first, int second) {
        AgeHill hill = CHECK.hill(Check.houses(3));
        for (int i = 0; i < first + second; i++) {
            hill.come(50 - i, 50 - i, false);
        }
        for (int i = 1; i < first; i++) {
            hill.join(i, 0);
        }
        for (int i = first + 1; i < first + second; i++) {
            hill.join(i, first);
        }
        hill.live(0, 0);
        hill.live(first, 1);
        return hill;
    }

    private static void marrySix() {
        CHECK.sentence("-2: it can't be, more than six; NONE: no such ones that live, one and the same.");
        for (int first = 1; first <= 6; first++) {
            for (int second = 1; second <= 6; second++) {
                int due = first + second > 6 ? -2 : 0;
                CHECK.due(first + " and " + second, sizes(first, second).marry(0, first, false), due);
                CHECK.due(first + " and " + second, sizes(first, second).marry(first, 0, true), due);
            }
        }
        AgeHill tops = CHECK.hill("house a left 1;house b right 1;house c 1;");
        Check.settleIn(tops, 50, 0);
        Check.settleIn(tops, 40, 1);
        tops.come(5, 5, false);
        CHECK.due("two tops", tops.marry(0, 1, false), -2);
        CHECK.due("two tops, one and the same", tops.marry(0, 0, false), -1);
        CHECK.due("two tops, one that lives nowhere", tops.marry(0, 2, false), -1);
        AgeHill six = sizes(6, 1);
        six.come(5, 5, false);
        CHECK.due("six and one that lives nowhere", six.marry(0, 7, false), -1);
        CHECK.due("six and themselves", six.marry(0, 0, false), -1);
    }

    private static void marryAsked() {
        CHECK.sentence("NONE: no such ones that live, one and the same.");
        AgeHill hill = CHECK.busyHill();
        for (int f : new int[] {-1, -2, 2, 4, 5, 6, 30, MIN, MAX}) {
            CHECK.due("marry(" + f + ", 0)", hill.marry(f, 0, false), -1);
            CHECK.due("marry(0, " + f + ")", hill.marry(0, f, true), -1);
            CHECK.due("marry(" + f + ", " + f + ")", hill.marry(f, f, true), -1);
        }
        for (int f : new int[] {0, 1, 3}) {
            CHECK.due("marry(" + f + ", " + f + ")", hill.marry(f, f, false), -1);
        }
        CHECK.due("marry(0, 3)", hill.marry(0, 3, false) >= 0, true);
        CHECK.due("of no hill", new AgeHill().marry(0, 1, false), -1);
    }

    private static void askedOnly() {
        CHECK.sentence("Nothing is promised beyond the answers and state changes described above");
        CHECK.onlyAsks("judge", AgeHill::judge);
        CHECK.onlyAsks("worth", hill -> hill.worth(0, 0));
        CHECK.onlyAsks("change", hill -> hill.change(0));
        CHECK.onlyAsks("waits", hill -> hill.waits(0, 3));
        CHECK.onlyAsks("marry in the one's", hill -> hill.marry(0, 3, false));
        CHECK.onlyAsks("marry in the other's", hill -> hill.marry(0, 1, true));
    }
}
