/** The sentences of part III (from LEAST on) and of promises 18 to 25 that name a boundary, one by one. */
public final class EdgesOfLeast {
    private static final Check CHECK = new Check("EdgesOfLeast");
    private static final int MIN = Integer.MIN_VALUE;
    private static final int MAX = Integer.MAX_VALUE;
    private static final String TWO_TOPS = "house a left 1;house b right 2;house c 3;";

    public static void main(String[] args) {
        least();
        carts();
        steps();
        mean();
        where();
        gap();
        part();
        asked();
        CHECK.end();
    }

    /** Families 0, 1, .. of such ages in such houses: age, house, age, house, .. */
    private static AgeHill row(String text, int... agesAndHouses) {
        AgeHill hill = CHECK.hill(text);
        for (int i = 0; i < agesAndHouses.length; i += 2) {
            Check.settleIn(hill, agesAndHouses[i], agesAndHouses[i + 1]);
        }
        return hill;
    }

    /** So many houses, of which the lower ones are lived in, the older the lower. */
    private static AgeHill upsideDown(int houses, int families, String more) {
        AgeHill hill = CHECK.hill(Check.houses(houses) + more);
        for (int h = 0; h < families; h++) {
            Check.settleIn(hill, 90 - h, h);
        }
        return hill;
    }

    // ---- least ----

    private static void least() {
        fewest();
        comerIsNotCounted();
        eachToOne();
        costs();
        costsHeld();
        costVars();
        first();
        twoTops();
        tooFew();
        forgivenOnes();
        allAnew();
    }

    private static void fewest() {
        CHECK.sentence("with the fewest that do not stay where they live");
        CHECK.due("nobody", new AgeHill().least(-1, 0), 0);
        CHECK.due("nobody in 24", CHECK.hill(Check.houses(24)).least(-1, 0), 0);
        for (int h = 0; h < 3; h++) {
            CHECK.due("one alone", row(Check.houses(3), 50, h).least(-1, 0), 0);
        }
        CHECK.due("24 upside down", upsideDown(24, 24, "").least(-1, 0), 24);
        CHECK.due("23 upside down", upsideDown(23, 23, "").least(-1, 0), 22);
        for (int n = 1; n < 24; n++) {
            AgeHill hill = upsideDown(24, n, "");
            CHECK.due(n + " upside down in 24", hill.least(-1, 0), n - 1);
            CHECK.due(n + " upside down in 24, by steps", hill.steps(1), n - 1);
            CHECK.due(n + " upside down in 24: MEAN", hill.mean() <= 100 * n, true);
        }
        AgeHill dear = row(Check.houses(3) + "cost=9999*(to/2);", 50, 0, 40, 1);
        CHECK.due("one dear move, not two free ones", dear.least(-1, 0), 1);
        CHECK.due("its COST", dear.least(-1, 1), 9999);
        AgeHill alike = row(Check.houses(3) + "step 10;", 59, 0, 50, 1, 55, 2);
        CHECK.due("alike ones stay", alike.least(-1, 0), 0);
        AgeHill one = row(Check.houses(3) + "step 10;", 60, 0, 59, 1);
        CHECK.due("of the next KEY", one.least(-1, 0), 1);
    }

    private static void comerIsNotCounted() {
        CHECK.sentence("(who comes is not counted)");
        AgeHill alone = CHECK.hill(Check.houses(1));
        int comer = alone.come(50, 50, false);
        CHECK.due("alone", alone.least(comer, 0), 0);
        AgeHill hill = upsideDown(24, 23, "");
        int young = hill.come(1, 1, false);
        CHECK.due("23 move for one", hill.least(young, 0), 23);
        CHECK.due("24 COSTS", hill.least(young, 1), 24);
        CHECK.due("settle", hill.settle(young), 23);
        CHECK.due("the youngest lives lowest", hill.house(0, 2), young);
    }

    private static void eachToOne() {
        CHECK.sentence("all of a ROW are put to HOUSES (each to one, the next one to a higher one; who comes, too)");
        for (int n : new int[] {1, 2, 12, 22, 23}) {
            AgeHill hill = upsideDown(24, n, "step 3;cost=9-far;");
            int comer = hill.come(80, 80, false);
            int last = -1;
            for (int i = 0; i < n; i++) {
                int house = hill.leastAt(-1, hill.row(i));
                CHECK.due("all anew, one of " + n + " is higher than the one ahead", house > last && house < 24, true);
                last = house;
            }
            hill.settle(comer);
            CHECK.due("that live", hill.count(3), n + 1);
            for (int i = 0; i < n; i++) {
                int here = hill.row(i);
                CHECK.due("KEYS along the ROW", hill.family(here, 2) <= hill.family(hill.row(i + 1), 2), true);
                CHECK.due("HOUSES along the ROW", hill.family(here, 3) < hill.family(hill.row(i + 1), 3), true);
            }
        }
    }

    private static void costs() {
        CHECK.sentence("of these with the least sum of COSTS of those who move and of who comes");
        // 20 to 0, or 30 to 3 or 4.
        AgeHill hill = row(Check.houses(5) + "cost=(to-4)*(to-4)+1;", 30, 1, 20, 2);
        CHECK.due("moved", hill.least(-1, 0), 1);
        CHECK.due("costs", hill.least(-1, 1), 1);
        CHECK.due("the older one", hill.leastAt(-1, 0), 4);
        CHECK.due("the younger one stays", hill.leastAt(-1, 1), 2);
        // Who comes may live in 1, 2 or 3: none else moves, his COST alone decides.
        AgeHill comes = row(Check.houses(5) + "cost=9-to*to;", 10, 0, 90, 4);
        int comer = comes.come(50, 50, false);
        CHECK.due("moved", comes.least(comer, 0), 0);
        CHECK.due("costs", comes.least(comer, 1), 0);
        CHECK.due("who comes", comes.leastAt(comer, comer), 3);
        // 80 must go up to 2, 3 or 4 and he who comes stands below it: 10 in 1 stays, so 80 in 3 and he in 2.
        AgeHill both = row(Check.houses(5) + "cost=to*to;", 80, 0, 10, 1);
        comer = both.come(50, 50, false);
        CHECK.due("one moves for him", both.least(comer, 0), 1);
        CHECK.due("both COSTS", both.least(comer, 1), 9 + 4);
        CHECK.due("who moves", both.leastAt(comer, 0), 3);
        CHECK.due("who comes", both.leastAt(comer, comer), 2);
    }

    /** One of 50 in 0 must go to 2, 3 or 4, as one of 40 stays in 1. */
    private static void cost(String cost, int due, int house) {
        AgeHill hill = row(Check.houses(5) + "cost=" + cost + ";", 50, 0, 40, 1);
        CHECK.due("moved by " + cost, hill.least(-1, 0), 1);
        CHECK.due("costs by " + cost, hill.least(-1, 1), due);
        CHECK.due("house by " + cost, hill.leastAt(-1, 0), house);
    }

    private static void costsHeld() {
        CHECK.sentence("each held to 0 .. 9999");
        cost("0-1", 0, 2);
        cost("to-3", 0, 2);
        cost("3-to", 0, 3);
        cost("4-to", 0, 4);
        cost("5-to", 1, 4);
        cost("9999+3-to", 9998, 4);
        cost("9999+4-to", 9999, 2);
        cost("9999+5-to", 9999, 2);
        cost("9999-2+to", 9999, 2);
        cost("9999-3+to", 9998, 2);
        cost("8192*8192*32-1", 9999, 2);
        cost("8192*8192*32", 0, 2);
        CHECK.due("24 of the most", upsideDown(24, 24, "cost=9999+1;").least(-1, 1), 24 * 9999);
        CHECK.due("24 of the least", upsideDown(24, 24, "cost=0-1;").least(-1, 1), 0);
        AgeHill hill = upsideDown(24, 23, "cost=9999*9;");
        int comer = hill.come(1, 1, false);
        CHECK.due("23 and who comes of the most", hill.least(comer, 1), 24 * 9999);
        CHECK.due("23 and who comes", hill.least(comer, 0), 23);
    }

    private static void costVars() {
        CHECK.sentence("(VARS age, size, lame, month; from, to: HOUSES; far: how far these numbers are apart; from is -1, far 0 for who comes)");
        AgeHill up = row(Check.houses(5) + "cost=from*1000+to*100+far*10+month;", 50, 1, 40, 2);
        up.months(17);
        CHECK.due("from 1 to 3 in MONTH 17", up.least(-1, 1), 1000 + 300 + 20 + 5);
        AgeHill down = row(Check.houses(5) + "cost=far;", 50, 2, 40, 4, 60, 3);
        CHECK.due("from 4 to 1", down.least(-1, 1), 3);
        CHECK.due("from 4 to 1", down.leastAt(-1, 1), 1);
        AgeHill who = row(Check.houses(3) + "by mean;cost=age*100+size*10+lame;", 50, 0, 20, 1);
        who.come(41, 41, true);
        who.join(2, 0);
        CHECK.due("AGE 45, two of which one is lame", who.least(-1, 1), 4521);
        AgeHill comes = CHECK.hill(Check.houses(3) + "cost=from+5+far*100+to;");
        int comer = comes.come(5, 5, false);
        CHECK.due("from -1, far 0, to 0", comes.least(comer, 1), 4);
        AgeHill high = row(Check.houses(3) + "cost=(from+1)*1000+far*100+to;", 4, 0, 5, 1);
        comer = high.come(5, 5, false);
        CHECK.due("from -1, far 0, to 2", high.least(comer, 1), 2);
    }

    private static void first() {
        CHECK.sentence("of these the first: the first of the ROW in the least HOUSE, then the second one, ..");
        AgeHill hill = row(Check.houses(4), 30, 1, 20, 2);
        CHECK.due("the first of the ROW", hill.leastAt(-1, 1), 0);
        CHECK.due("the second one stays", hill.leastAt(-1, 0), 1);
        AgeHill second = row(Check.houses(4), 30, 0, 20, 1);
        CHECK.due("the first stays", second.leastAt(-1, 1), 1);
        CHECK.due("the second one in the least HOUSE", second.leastAt(-1, 0), 2);
        AgeHill comes = CHECK.hill(Check.houses(4));
        int comer = comes.come(9, 9, false);
        CHECK.due("alone", comes.leastAt(comer, comer), 0);
        comes.live(comer, 1);
        int next = comes.come(9, 9, false);
        CHECK.due("behind him", comes.leastAt(next, next), 2);
        AgeHill cost = row(Check.houses(4) + "cost=9-to;", 30, 1, 20, 2);
        CHECK.due("but by COSTS ahead", cost.leastAt(-1, 0), 3);
    }

    private static void twoTops() {
        CHECK.sentence("-2: there are two tops (some HOUSE on the left, some on the right one), or too few HOUSES.");
        String[] sides = {"", "left ", "right "};
        for (int a = 0; a < 3; a++) {
            for (int b = 0; b < 3; b++) {
                AgeHill hill = CHECK.hill("house x 1;house a " + sides[a] + "1;house b " + sides[b] + "2;");
                boolean two = a + b == 3 && a != 0 && b != 0;
                String tops = "'" + sides[a] + "' and '" + sides[b] + "'";
                CHECK.due("least of " + tops, hill.least(-1, 0), two ? -2 : 0);
                int comer = hill.come(5, 5, false);
                CHECK.due("leastAt of " + tops, hill.leastAt(comer, comer), two ? -2 : 0);
                CHECK.due("steps of " + tops, hill.steps(5), two ? -2 : 0);
                CHECK.due("mean of " + tops, hill.mean(), two ? -2 : 0);
                CHECK.due("where of " + tops, hill.where(true), two ? -2 : 0);
                CHECK.due("where of " + tops, hill.where(false), two ? -2 : 0);
                CHECK.due("gap of " + tops, hill.gap(), two ? -2 : 0);
                CHECK.due("settle of " + tops, hill.settle(comer), two ? -2 : 0);
            }
        }
        String most = "house y left 1;" + Check.houses(22) + "house z right 1;";
        CHECK.due("one of 24 on each", CHECK.hill(most).least(-1, 0), -2);
    }

    private static void tooFew() {
        CHECK.sentence("or too few HOUSES");
        for (int n : new int[] {0, 1, 2, 23}) {
            AgeHill full = upsideDown(n, n, "");
            int comer = full.come(5, 5, false);
            for (int what = 0; what < 3; what++) {
                CHECK.due("one more in " + n, full.least(comer, what), -2);
            }
            CHECK.due("one more in " + n, full.leastAt(comer, comer), -2);
            CHECK.due("one more in " + n, full.settle(comer), -2);
            CHECK.due("all anew in " + n, full.least(-1, 0), n / 2 * 2);
            AgeHill room = upsideDown(n + 1, n, "");
            comer = room.come(5, 5, false);
            // Of 2 the higher one stays where it is; of 1 and of 23 none does.
            CHECK.due("the last room of " + n, room.least(comer, 0), n == 2 ? 1 : n);
            CHECK.due("the last room of " + n, room.leastAt(comer, comer), 0);
        }
        AgeHill full = upsideDown(24, 24, "");
        int comer = full.come(5, 5, false);
        CHECK.due("a 25th", full.least(comer, 0), -2);
        CHECK.due("all anew", full.least(-1, 0), 24);
    }

    private static void forgivenOnes() {
        CHECK.sentence("What is FORGIVEN does not matter.");
        AgeHill hill = row(Check.houses(2) + "forgive if 1==1;", 50, 0, 40, 1);
        CHECK.due("nothing is UNLAWFUL", hill.unlawful(0), 0);
        CHECK.due("but both move", hill.least(-1, 0), 2);
        CHECK.due("by steps, too", hill.steps(1), 2);
        CHECK.due("and do so", hill.settle(-1), 2);
        CHECK.due("the older one above", hill.house(1, 2), 0);
    }

    private static void allAnew() {
        CHECK.sentence("ALL ANEW: LEAST without one that comes.");
        AgeHill hill = row(Check.houses(3), 40, 0, 50, 2);
        hill.come(99, 99, false);
        hill.come(1, 1, false);
        CHECK.due("who lives nowhere does not matter", hill.least(-1, 0), 0);
        CHECK.due("nor as to COSTS", hill.least(-1, 1), 0);
        CHECK.due("he is put nowhere", hill.leastAt(-1, 2), -1);
        CHECK.due("settle", hill.settle(-1), 0);
        CHECK.due("he lives nowhere", hill.family(2, 3), -2);
    }

    // ---- carts and steps ----

    private static void carts() {
        CHECK.sentence("CARTS: by how many mornings of LANE moves each it can be done: moves by LANE, rounded up.");
        int[] lanes = {1, 1, 2, 2, 2, 3, 3, 3, 3, 4, 4, 5, 5, 8, 8, 9, 9, 9, 9, 9};
        int[] moves = {2, 24, 2, 4, 6, 2, 4, 6, 8, 4, 6, 4, 6, 8, 10, 8, 10, 18, 20, 24};
        int[] mornings = {2, 24, 1, 2, 3, 1, 2, 2, 3, 1, 2, 1, 2, 1, 2, 1, 2, 2, 3, 3};
        for (int i = 0; i < lanes.length; i++) {
            AgeHill hill = upsideDown(moves[i], moves[i], "lane " + lanes[i] + ";");
            CHECK.due(moves[i] + " moves", hill.least(-1, 0), moves[i]);
            CHECK.due(moves[i] + " by " + lanes[i], hill.least(-1, 2), mornings[i]);
        }
        for (int lane = 1; lane <= 9; lane++) {
            String more = "lane " + lane + ";";
            CHECK.due("none by " + lane, CHECK.hill(Check.houses(2) + more).least(-1, 2), 0);
            CHECK.due("1 by " + lane, row(Check.houses(3) + more, 50, 0, 40, 1).least(-1, 2), 1);
            AgeHill hill = CHECK.hill(Check.houses(1) + more);
            CHECK.due("who comes does not move", hill.least(hill.come(5, 5, false), 2), 0);
        }
        CHECK.due("3 carts if not told", upsideDown(4, 4, "").least(-1, 2), 2);
    }

    private static void steps() {
        CHECK.sentence("BY STEPS of s (1 .. 20); -2: it can't be; NONE: no such s.");
        AgeHill hill = row(Check.houses(2) + "step 7;", 39, 0, 20, 1);
        CHECK.due("steps(1)", hill.steps(1), 2);
        CHECK.due("steps(19)", hill.steps(19), 2);
        CHECK.due("steps(20)", hill.steps(20), 0);
        for (int s : new int[] {0, 21, -1, MIN, MAX}) {
            CHECK.due("steps(" + s + ")", hill.steps(s), -1);
            CHECK.due("steps(" + s + ") of two tops", CHECK.hill(TWO_TOPS).steps(s), -1);
            CHECK.due("steps(" + s + ") of none", new AgeHill().steps(s), -1);
        }
        CHECK.due("steps(1) of two tops", CHECK.hill(TWO_TOPS).steps(1), -2);
        CHECK.due("steps(20) of two tops", CHECK.hill(TWO_TOPS).steps(20), -2);
        CHECK.due("steps(1) of none", new AgeHill().steps(1), 0);
        CHECK.due("STEP is as it was", hill.count(8), 7);
        CHECK.due("KEY is as it was", hill.family(0, 2), 5);
        AgeHill liars = CHECK.hill(Check.houses(2));
        liars.come(20, 50, false);
        liars.come(30, 40, false);
        liars.live(0, 1);
        liars.live(1, 0);
        CHECK.due("by told ages", liars.steps(1), 0);
        liars.live(0, -1);
        liars.live(1, -1);
        liars.live(0, 0);
        liars.live(1, 1);
        CHECK.due("by told ages", liars.steps(1), 2);
        AgeHill full = upsideDown(24, 24, "");
        CHECK.due("24 by 1", full.steps(1), 24);
        // Eleven with KEY 4 go from 0 .. 10 to 13 .. 23, thirteen with KEY 3 from 11 .. 23 to 0 .. 12.
        CHECK.due("24 by 20", full.steps(20), 24);
    }

    // ---- mean, where, gap ----

    private static void mean() {
        meanOfAges();
        meanHeld();
        meanCannot();
        meanOfTops();
    }

    private static void meanOfAges() {
        CHECK.sentence("MEAN: the sum over ages a 0 .. 99 of what COMES says");
        CHECK.due("0 alone, below one in 0", row(Check.houses(2) + "comes=1-age;", 30, 0).mean(), 1);
        CHECK.due("99 alone, above one in 0", row(Check.houses(2) + "comes=age-98;", 30, 0).mean(), 0);
        CHECK.due("0 alone, below one in 1", row(Check.houses(2) + "comes=1-age;", 30, 1).mean(), 0);
        CHECK.due("99 alone, above one in 1", row(Check.houses(2) + "comes=age-98;", 30, 1).mean(), 1);
        CHECK.due("those below 30", row(Check.houses(2), 30, 0).mean(), 30);
        CHECK.due("those of 30 and more", row(Check.houses(2), 30, 1).mean(), 70);
        CHECK.due("those of KEYS below 3", row(Check.houses(2) + "step 10;", 39, 0).mean(), 30);
        CHECK.due("those of KEYS 3 and more", row(Check.houses(2) + "step 10;", 39, 1).mean(), 70);
        CHECK.due("nobody moves for him", CHECK.hill(Check.houses(24)).mean(), 0);
        // In all 24: of those below 79 each lets none stay, of the others one.
        CHECK.due("23 of 24", upsideDown(24, 23, "").mean(), 79 * 23 + 21 * 22);
    }

    private static void meanHeld() {
        CHECK.sentence("what COMES says (VAR age; held to 0 .. 9)");
        String full = Check.houses(1) + "comes=";
        CHECK.due("8", row(full + "8;", 50, 0).mean(), 24 * 800);
        CHECK.due("9", row(full + "9;", 50, 0).mean(), 24 * 900);
        CHECK.due("10", row(full + "10;", 50, 0).mean(), 24 * 900);
        CHECK.due("0", row(full + "0;", 50, 0).mean(), 0);
        CHECK.due("-1", row(full + "0-1;", 50, 0).mean(), 0);
        CHECK.due("1 to 9", row(full + "age-90;", 50, 0).mean(), 24 * 45);
        CHECK.due("1 to 9, then 10", row(full + "age-89;", 50, 0).mean(), 24 * 54);
        CHECK.due("the least number", row(full + "8192*8192*32;", 50, 0).mean(), 0);
    }

    private static void meanCannot() {
        CHECK.sentence("where it can't be, times 24");
        CHECK.due("no HOUSE", new AgeHill().mean(), 2400);
        CHECK.due("one, not empty", row(Check.houses(1), 50, 0).mean(), 2400);
        CHECK.due("24, not empty", upsideDown(24, 24, "").mean(), 2400);
        CHECK.due("one, empty", CHECK.hill(Check.houses(1)).mean(), 0);
    }

    private static void meanOfTops() {
        CHECK.sentence("MEAN; -2: there are two tops.");
        CHECK.due("two tops", CHECK.hill(TWO_TOPS).mean(), -2);
        CHECK.due("left", CHECK.hill("house a left 1;").mean(), 0);
        CHECK.due("right", CHECK.hill("house a right 1;").mean(), 0);
    }

    private static void where() {
        whereBetween();
        whereAlike();
        whereCannot();
    }

    private static void where(String call, AgeHill hill, int place, int mean) {
        CHECK.due(call + ": p", hill.where(true), place);
        CHECK.due(call + ": MEAN", hill.where(false), mean);
    }

    private static AgeHill sorted(int houses, int families, String more) {
        AgeHill hill = CHECK.hill(Check.houses(houses) + more);
        for (int h = 0; h < families; h++) {
            Check.settleIn(hill, 30 + h, h);
        }
        return hill;
    }

    private static void whereBetween() {
        CHECK.sentence("it would be put above p of the HOUSES (p 0 .. how many there are; GOOD 0): MEAN is least");
        where("0 comes", row(Check.houses(1) + "comes=1-age;", 50, 0), 0, 0);
        where("99 comes", row(Check.houses(1) + "comes=age-98;", 50, 0), 1, 0);
        where("between", row(Check.houses(2), 30, 0, 60, 1), 1, 70);
        where("no HOUSE", new AgeHill(), 0, 0);
        where("0 comes to 23", sorted(23, 23, "comes=1-age;"), 0, 0);
        where("99 comes to 23", sorted(23, 23, "comes=age-98;"), 23, 0);
        where("40 comes to 23", sorted(23, 23, "comes=1-(age-40)*(age-40);"), 11, 0);
        AgeHill hill = sorted(23, 23, "comes=age-98;");
        hill.where(true);
        CHECK.due("HOUSES are as before", hill.count(0), 23);
        CHECK.due("who lives highest", hill.house(22, 2), 22);
        CHECK.due("all is as before", hill.least(-1, 0), 0);
    }

    private static void whereAlike() {
        CHECK.sentence("MEAN is least; of alike ones the least p");
        where("50 below, 50 above", row(Check.houses(1), 50, 0), 0, 50);
        where("49 below, 51 above", row(Check.houses(1), 49, 0), 1, 49);
        where("51 below, 49 above", row(Check.houses(1), 51, 0), 0, 49);
        where("nobody comes", row(Check.houses(2) + "comes=0;", 50, 0, 40, 1), 0, 0);
        where("nobody there", CHECK.hill(Check.houses(23)), 0, 0);
    }

    private static void whereCannot() {
        CHECK.sentence("WHERE A NEW HOUSE (least: p; else MEAN with it); -2: there are two tops, 24 HOUSES.");
        where("23 HOUSES", sorted(23, 0, ""), 0, 0);
        where("24 HOUSES", sorted(24, 0, ""), -2, -2);
        where("24 HOUSES, all full", sorted(24, 24, ""), -2, -2);
        where("two tops", CHECK.hill(TWO_TOPS), -2, -2);
        where("one top", CHECK.hill("house a left 1;house b left 1;"), 0, 0);
    }

    private static void gap() {
        gapAlike();
        gapCannot();
    }

    private static void gapAlike() {
        CHECK.sentence("GAP: the empty HOUSE without which MEAN (as if it were none) is greatest; of alike ones the least.");
        CHECK.due("70 without 2, 30 without 0", row(Check.houses(3), 30, 1).gap(), 2);
        CHECK.due("30 without 2, 70 without 0", row(Check.houses(3), 70, 1).gap(), 0);
        CHECK.due("50 without either", row(Check.houses(3), 50, 1).gap(), 0);
        CHECK.due("51 without 0", row(Check.houses(3), 51, 1).gap(), 0);
        CHECK.due("51 without 2", row(Check.houses(3), 49, 1).gap(), 2);
        CHECK.due("nobody there", CHECK.hill(Check.houses(24)).gap(), 0);
        CHECK.due("nobody comes", row(Check.houses(4) + "comes=0;", 50, 0, 40, 2).gap(), 1);
        CHECK.due("the last room", row(Check.houses(2), 50, 0).gap(), 1);
        CHECK.due("the last room of 24", sorted(24, 23, "").gap(), 23);
        CHECK.due("one HOUSE", CHECK.hill(Check.houses(1)).gap(), 0);
    }

    private static void gapCannot() {
        CHECK.sentence("GAP; -2: there are two tops, no HOUSE is empty.");
        CHECK.due("two tops", CHECK.hill(TWO_TOPS).gap(), -2);
        CHECK.due("no HOUSE", new AgeHill().gap(), -2);
        CHECK.due("one, not empty", row(Check.houses(1), 50, 0).gap(), -2);
        CHECK.due("24, none empty", sorted(24, 24, "").gap(), -2);
        AgeHill full = row(Check.houses(2), 50, 0, 60, 1);
        CHECK.due("2, none empty", full.gap(), -2);
        full.live(0, -1);
        CHECK.due("one is empty", full.gap(), 0);
    }

    // ---- part ----

    private static void part() {
        partOfTwelve();
        partByKeys();
        partOfFewest();
        partOfLeast();
        partAsked();
    }

    private static void part(String call, AgeHill hill, int moved, int bits) {
        CHECK.due(call + ": how many do not stay", hill.part(0), moved);
        CHECK.due(call + ": bits", hill.part(1), bits);
    }

    /** Houses on tops: l is one on the left, r on the right, any other sign neither. */
    private static String tops(String sides) {
        StringBuilder text = new StringBuilder();
        for (int h = 0; h < sides.length(); h++) {
            char side = sides.charAt(h);
            text.append("house ").append((char) ('a' + h)).append(side == 'l' ? " left " : side == 'r' ? " right " : " ").append("1;");
        }
        return text.toString();
    }

    private static AgeHill onTops(String sides, int families) {
        AgeHill hill = CHECK.hill(tops(sides));
        for (int h = 0; h < families; h++) {
            Check.settleIn(hill, 30 + h, h);
        }
        return hill;
    }

    private static void partOfTwelve() {
        CHECK.sentence("of the FAMILIES on the two tops (12 at most) each goes to one of these");
        part("no one", new AgeHill(), 0, 0);
        part("no top", sorted(24, 24, ""), 0, 0);
        part("no one on tops", CHECK.hill(TWO_TOPS), 0, 0);
        part("12 on the left", onTops("l".repeat(24), 12), 0, 4095);
        part("13 on the left", onTops("l".repeat(24), 13), -2, -2);
        part("12 on the right", onTops("r".repeat(24), 12), 0, 0);
        part("13 on the right", onTops("r".repeat(24), 13), -2, -2);
        part("6 on each", onTops("rl".repeat(12), 12), 0, 0b101010101010);
        part("6 and 7", onTops("rl".repeat(12), 13), -2, -2);
        part("24", onTops("lr".repeat(12), 24), -2, -2);
        part("12 and 12 on neither", onTops("lr".repeat(6) + "-".repeat(12), 24), 0, 0b010101010101);
        AgeHill hill = onTops("l".repeat(24), 13);
        hill.live(5, -1);
        part("12 of 13", hill, 0, 4095);
        part("12 in 12 on the left", onTops("l".repeat(12) + "r".repeat(12), 12), 0, 4095);
        part("12 in 12 on the right", onTops("r".repeat(12) + "l".repeat(12), 12), 0, 0);
        AgeHill high = CHECK.hill(tops("r".repeat(12) + "l".repeat(12)));
        for (int h = 0; h < 6; h++) {
            Check.settleIn(high, 30 + h, 6 + h);
            Check.settleIn(high, 30 + h, 18 + h);
        }
        part("the highest 6 on each", high, 0, 0b111111000000);
    }

    private static void partByKeys() {
        CHECK.sentence("so that on each they stand by KEYS (of alike ones by HOUSES)");
        part("in order", row(tops("ll"), 40, 0, 50, 1), 0, 3);
        part("not in order, no other place", row(tops("ll"), 50, 0, 40, 1), 2, 3);
        part("alike ones", row(tops("ll") + "step 10;", 59, 0, 50, 1), 0, 3);
        part("of the next KEY", row(tops("ll") + "step 10;", 60, 0, 59, 1), 2, 3);
        part("each top by itself", row(tops("lr"), 50, 0, 40, 1), 0, 1);
        part("alike ones by their HOUSES, not numbers", row(tops("rrr") + "step 10;", 50, 2, 59, 1, 55, 0), 0, 0);
    }

    private static void partOfFewest() {
        CHECK.sentence("with the fewest that do not stay; of alike ones with the fewest on the left");
        part("the older one up on the left, or either to the right", row(tops("lllr"), 50, 0, 40, 1), 1, 1);
        part("up on the right, or to the left", row(tops("rrrl"), 50, 0, 40, 1), 1, 0);
        part("no room on the right", row(tops("rrl"), 50, 0, 40, 1), 1, 1);
        part("no room on the left", row(tops("llr"), 50, 0, 40, 1), 1, 1);
        part("all stay though more are on the left", row(tops("llrr"), 40, 0, 50, 1), 0, 3);
    }

    private static void partOfLeast() {
        CHECK.sentence("then the least (bits: the i-th of them by HOUSES on the left)");
        part("either goes to the right", row(tops("llr"), 50, 0, 40, 1), 1, 1);
        part("either goes to the left", row(tops("rrl"), 50, 0, 40, 1), 1, 1);
        part("the second of three to the left", row(tops("rrrl"), 40, 0, 60, 1, 50, 2), 1, 2);
        part("the one of four that is not in order", row(tops("rrrrl"), 30, 0, 50, 1, 60, 2, 40, 3), 1, 8);
        part("by HOUSES, not by numbers", row(tops("-lrl"), 50, 3, 40, 2, 30, 1), 0, 5);
        part("by HOUSES, not by numbers", row(tops("rrl"), 40, 2, 30, 1, 20, 0), 0, 4);
    }

    private static void partAsked() {
        CHECK.sentence("PART: what 0 how many do not stay, 1 the bits; -2: more than 12, it can't be; NONE: no such what.");
        for (int what : new int[] {-1, 2, MIN, MAX}) {
            CHECK.due("part(" + what + ")", onTops("lr", 2).part(what), -1);
            CHECK.due("part(" + what + ") of 13", onTops("l".repeat(24), 13).part(what), -1);
            CHECK.due("part(" + what + ") of none", new AgeHill().part(what), -1);
        }
        CHECK.due("part(0) of 13", onTops("l".repeat(24), 13).part(0), -2);
        CHECK.due("part(1) of 13", onTops("l".repeat(24), 13).part(1), -2);
    }

    // ---- promises 18 to 20 ----

    private static void asked() {
        leastAsked();
        leastAtAsked();
        settled();
        askedOnly();
    }

    private static void leastAsked() {
        CHECK.sentence("LEAST for a FAMILY that lives nowhere (NONE: ALL ANEW): what 0 how many move, 1 the sum of COSTS, 2 CARTS; "
            + "-2: it can't be; NONE: no such ones.");
        AgeHill hill = CHECK.busyHill();
        // Families 0, 1, 3 live; 2 and 5 are no more; 4 lives nowhere.
        for (int what = 0; what < 3; what++) {
            CHECK.due("of 4", hill.least(4, what) >= 0, true);
            CHECK.due("all anew", hill.least(-1, what) >= 0, true);
            for (int f : new int[] {0, 1, 3, 2, 5, 6, 30, -2, MIN, MAX}) {
                CHECK.due("least(" + f + ", " + what + ")", hill.least(f, what), -1);
            }
        }
        for (int what : new int[] {-1, 3, MIN, MAX}) {
            CHECK.due("least(4, " + what + ")", hill.least(4, what), -1);
            CHECK.due("least(-1, " + what + ")", hill.least(-1, what), -1);
            CHECK.due("least(-1, " + what + ") of two tops", CHECK.hill(TWO_TOPS).least(-1, what), -1);
        }
        AgeHill tops = row(TWO_TOPS, 50, 0);
        CHECK.due("of two tops, one that lives", tops.least(0, 0), -1);
        CHECK.due("of two tops, no such one", tops.least(1, 0), -1);
        CHECK.due("of two tops, all anew", tops.least(-1, 2), -2);
        CHECK.due("of no HOUSES, no such one", new AgeHill().least(0, 0), -1);
    }

    private static void leastAtAsked() {
        CHECK.sentence("The HOUSE to which a FAMILY is put in LEAST of another one (NONE: ALL ANEW); -2: it can't be; "
            + "NONE: no such ones, it is not of that ROW.");
        AgeHill hill = CHECK.busyHill();
        int homeless = hill.come(50, 50, false);
        for (int f : new int[] {0, 1, 3}) {
            CHECK.due("all anew " + f, hill.leastAt(-1, f) >= 0, true);
            CHECK.due("of 4, " + f, hill.leastAt(4, f) >= 0, true);
            CHECK.due("of " + f + " that lives", hill.leastAt(f, 1), -1);
        }
        CHECK.due("of 4, itself", hill.leastAt(4, 4) >= 0, true);
        for (int f : new int[] {homeless, 2, 5, 7, 30, -1, -2, MIN, MAX}) {
            CHECK.due("leastAt(4, " + f + ")", hill.leastAt(4, f), -1);
            CHECK.due("leastAt(-1, " + f + ")", hill.leastAt(-1, f), -1);
        }
        for (int f : new int[] {2, 5, 7, 30, -2, MIN, MAX}) {
            CHECK.due("leastAt(" + f + ", 0)", hill.leastAt(f, 0), -1);
        }
        CHECK.due("all anew, one that lives nowhere", hill.leastAt(-1, 4), -1);
        AgeHill full = row(Check.houses(1), 50, 0);
        int more = full.come(5, 5, false);
        int other = full.come(5, 5, false);
        CHECK.due("too few HOUSES", full.leastAt(more, 0), -2);
        CHECK.due("too few HOUSES, itself", full.leastAt(more, more), -2);
        CHECK.due("too few HOUSES, not of that ROW", full.leastAt(more, other), -1);
        CHECK.due("all anew", full.leastAt(-1, 0), 0);
    }

    private static AgeHill fullOne() {
        AgeHill hill = row(Check.houses(2), 50, 0, 40, 1);
        hill.come(5, 5, false);
        return hill;
    }

    private static AgeHill onTwoTops() {
        AgeHill hill = row(TWO_TOPS, 50, 0, 40, 2);
        hill.come(5, 5, false);
        return hill;
    }

    private static void settled() {
        CHECK.sentence("LEAST is done: how many moved; -2, NONE, and nothing happens: likewise.");
        for (int f : new int[] {0, 1, 3, 2, 5, 6, 30, -2, MIN, MAX}) {
            CHECK.refused("settle(" + f + ")", hill -> hill.settle(f), -1);
        }
        CHECK.refused("too few HOUSES", EdgesOfLeast::fullOne, hill -> hill.settle(2), -2);
        CHECK.refused("two tops", EdgesOfLeast::onTwoTops, hill -> hill.settle(2), -2);
        CHECK.refused("two tops, all anew", EdgesOfLeast::onTwoTops, hill -> hill.settle(-1), -2);
        CHECK.refused("two tops, one that lives", EdgesOfLeast::onTwoTops, hill -> hill.settle(0), -1);
        CHECK.refused("two tops, no such one", EdgesOfLeast::onTwoTops, hill -> hill.settle(3), -1);
        for (int comer : new int[] {4, -1}) {
            AgeHill asked = CHECK.busyHill();
            AgeHill done = CHECK.busyHill();
            int moved = asked.least(comer, 0);
            CHECK.due("settle(" + comer + ")", done.settle(comer), moved);
            for (int f : new int[] {0, 1, 3, 4}) {
                int house = f == 4 && comer == -1 ? -2 : asked.leastAt(comer, f);
                CHECK.due(f + " after settle(" + comer + ")", done.family(f, 3), house);
            }
            CHECK.due("all stay then", done.settle(-1), 0);
            CHECK.due("MOVES are told still", done.count(5), 2);
            CHECK.due("MONTH", done.count(4), 14);
        }
    }

    private static void askedOnly() {
        CHECK.sentence("Nothing is promised beyond the answers and state changes described above");
        CHECK.onlyAsks("least of one", hill -> hill.least(4, 0));
        CHECK.onlyAsks("least all anew", hill -> hill.least(-1, 1));
        CHECK.onlyAsks("leastAt", hill -> hill.leastAt(4, 0));
        CHECK.onlyAsks("steps", hill -> hill.steps(3));
        CHECK.onlyAsks("mean", AgeHill::mean);
        CHECK.onlyAsks("where", hill -> hill.where(true));
        CHECK.onlyAsks("gap", AgeHill::gap);
        CHECK.onlyAsks("part", hill -> hill.part(1));
    }
}
