/** Promises 18 to 25: who moves where with the fewest moved, who may come, new houses, two tops. */
public final class PromisesOfLeast {
    private static final Check CHECK = new Check("PromisesOfLeast");

    public static void main(String[] args) {
        fewest();
        costs();
        ties();
        comers();
        settling();
        wrongOnes();
        steps();
        means();
        newHouses();
        gaps();
        parts();
        largest();
        CHECK.end();
    }

    private static void places(AgeHill hill, int comes, int... houses) {
        for (int f = 0; f < houses.length; f++) {
            CHECK.due("leastAt(" + comes + ", " + f + ")", hill.leastAt(comes, f), houses[f]);
        }
    }

    private static void fewest() {
        AgeHill hill = CHECK.hill(Check.houses(4));
        Check.settleIn(hill, 50, 0);
        Check.settleIn(hill, 40, 1);
        Check.settleIn(hill, 60, 3);
        CHECK.due("moved", hill.least(-1, 0), 1);
        CHECK.due("costs", hill.least(-1, 1), 1);
        CHECK.due("carts", hill.least(-1, 2), 1);
        places(hill, -1, 2, 1, 3);
        AgeHill upside = CHECK.hill(Check.houses(7) + "lane 2;");
        for (int i = 0; i < 7; i++) {
            Check.settleIn(upside, 90 - i, i);
        }
        // Only the one in the middle can stay.
        CHECK.due("moved", upside.least(-1, 0), 6);
        CHECK.due("carts", upside.least(-1, 2), 3);
        places(upside, -1, 6, 5, 4, 3, 2, 1, 0);
        AgeHill forgiven = CHECK.hill(Check.houses(2) + "forgive if 1<2;");
        Check.settleIn(forgiven, 50, 0);
        Check.settleIn(forgiven, 40, 1);
        CHECK.due("lawful", forgiven.unlawful(0), 0);
        CHECK.due("what is forgiven does not matter", forgiven.least(-1, 0), 2);
        AgeHill carts = CHECK.hill(Check.houses(5) + "lane 3;");
        for (int i = 0; i < 5; i++) {
            Check.settleIn(carts, 90 - i, i);
        }
        CHECK.due("moved", carts.least(-1, 0), 4);
        CHECK.due("carts rounded up", carts.least(-1, 2), 2);
    }

    private static AgeHill twoWrong(String cost) {
        AgeHill hill = CHECK.hill(Check.houses(5) + "cost=" + cost + ";");
        hill.come(50, 50, true);
        hill.come(40, 40, false);
        hill.live(0, 0);
        hill.live(1, 1);
        return hill;
    }

    private static void cost(String cost, int due, int house) {
        AgeHill hill = twoWrong(cost);
        CHECK.due("moved by " + cost, hill.least(-1, 0), 1);
        CHECK.due("costs by " + cost, hill.least(-1, 1), due);
        CHECK.due("house by " + cost, hill.leastAt(-1, 0), house);
        CHECK.due("who stays by " + cost, hill.leastAt(-1, 1), 1);
    }

    /** One of 50 must go up from house 0 to 2, 3 or 4, as one of 40 stays in house 1. */
    private static void costs() {
        cost("1", 1, 2);
        cost("far", 2, 2);
        cost("9-to", 5, 4);
        cost("9-far", 5, 4);
        cost("to-9", 0, 2);
        cost("(to-3)*(to-3)+from", 0, 3);
        cost("7/(to-3)", 0, 2);
        cost("7/(4-to)", 0, 4);
        cost("9999*2-to", 9999, 2);
        cost("age+size*100+lame*200", 350, 2);
        cost("good+loved+gap+6", 6, 2);
        AgeHill month = twoWrong("month+to");
        month.months(14);
        CHECK.due("costs in month 2", month.least(-1, 1), 4);
        // Fewer moved is worth more than any cost.
        AgeHill dear = CHECK.hill(Check.houses(3) + "cost=9999*(to/2);");
        Check.settleIn(dear, 50, 0);
        Check.settleIn(dear, 40, 1);
        CHECK.due("moved", dear.least(-1, 0), 1);
        CHECK.due("costs", dear.least(-1, 1), 9999);
    }

    private static void ties() {
        AgeHill hill = CHECK.hill(Check.houses(4));
        Check.settleIn(hill, 30, 1);
        Check.settleIn(hill, 20, 2);
        // The younger one to 0 or the older one to 3: the first of the row in the least house.
        CHECK.due("moved", hill.least(-1, 0), 1);
        places(hill, -1, 1, 0);
        AgeHill alike = CHECK.hill(Check.houses(4) + "step 20;");
        Check.settleIn(alike, 39, 0);
        Check.settleIn(alike, 20, 1);
        CHECK.due("alike ones stay", alike.least(-1, 0), 0);
    }

    private static void comers() {
        AgeHill hill = CHECK.hill(Check.houses(3) + "cost=from+5;step 10;");
        Check.settleIn(hill, 50, 0);
        Check.settleIn(hill, 60, 2);
        int between = hill.come(59, 59, false);
        int old = hill.come(60, 60, false);
        int young = hill.come(49, 49, false);
        CHECK.due("between: moved", hill.least(between, 0), 0);
        CHECK.due("between: costs, from is -1", hill.least(between, 1), 4);
        CHECK.due("between: carts", hill.least(between, 2), 0);
        places(hill, between, 0, 2, 1, -1, -1);
        CHECK.due("old: moved", hill.least(old, 0), 1);
        CHECK.due("old: costs", hill.least(old, 1), 7 + 4);
        places(hill, old, 0, 1, -1, 2, -1);
        CHECK.due("young: moved", hill.least(young, 0), 1);
        places(hill, young, 1, 2, -1, -1, 0);
        CHECK.due("not of the row all anew", hill.leastAt(-1, young), -1);
        AgeHill far = CHECK.hill(Check.houses(3) + "cost=far*100+to;");
        int alone = far.come(5, 5, false);
        CHECK.due("far is 0", far.least(alone, 1), 0);
        CHECK.due("at the least house", far.leastAt(alone, alone), 0);
    }

    private static void settling() {
        AgeHill hill = CHECK.hill(Check.houses(4));
        Check.settleIn(hill, 50, 0);
        Check.settleIn(hill, 40, 1);
        Check.settleIn(hill, 60, 3);
        int comer = hill.come(45, 45, false);
        // 40 45 50 60 fill all: 40 to 0, 45 to 1, 50 to 2, 60 stays.
        CHECK.due("settle the comer", hill.settle(comer), 2);
        int[] in = {1, 3, 0, 2};
        for (int h = 0; h < 4; h++) {
            CHECK.due("house(" + h + ", 2)", hill.house(h, 2), in[h]);
            CHECK.due("family's house", hill.family(in[h], 3), h);
        }
        CHECK.due("lawful", hill.unlawful(0), 0);
        CHECK.due("settle again", hill.settle(-1), 0);
        int more = hill.come(1, 1, false);
        CHECK.due("too few houses", hill.settle(more), -2);
        CHECK.due("who lives", hill.settle(comer), -1);
        CHECK.due("no such one", hill.settle(9), -1);
        CHECK.due("no such one", hill.settle(-2), -1);
        hill.live(1, -1);
        hill.live(0, -1);
        hill.live(0, 0);
        // 50 at 0, 45 at 1, 60 at 3: 50 to 2.
        CHECK.due("all anew", hill.settle(-1), 1);
        CHECK.due("moved to 2", hill.house(2, 2), 0);
        CHECK.due("old house", hill.house(0, 2), -2);
    }

    private static void wrongOnes() {
        AgeHill hill = CHECK.hill("house a left 1;house b 2;house c right 3;");
        Check.settleIn(hill, 50, 0);
        int comer = hill.come(4, 4, false);
        CHECK.due("two tops", hill.least(-1, 0), -2);
        CHECK.due("two tops", hill.least(comer, 0), -2);
        CHECK.due("two tops", hill.leastAt(-1, 0), -2);
        CHECK.due("two tops", hill.settle(-1), -2);
        CHECK.due("two tops", hill.steps(1), -2);
        CHECK.due("two tops", hill.mean(), -2);
        CHECK.due("two tops", hill.where(true), -2);
        CHECK.due("two tops", hill.gap(), -2);
        CHECK.due("NONE ahead of -2", hill.least(-1, 3), -1);
        CHECK.due("NONE ahead of -2", hill.least(-1, -1), -1);
        CHECK.due("NONE ahead of -2", hill.least(0, 0), -1);
        CHECK.due("NONE ahead of -2", hill.least(7, 0), -1);
        CHECK.due("NONE ahead of -2", hill.leastAt(-1, comer), -1);
        CHECK.due("NONE ahead of -2", hill.leastAt(0, 0), -1);
        CHECK.due("NONE ahead of -2", hill.leastAt(-1, -1), -1);
        CHECK.due("NONE ahead of -2", hill.settle(0), -1);
        CHECK.due("NONE ahead of -2", hill.steps(0), -1);
        CHECK.due("NONE ahead of -2", hill.steps(21), -1);
        CHECK.due("NONE ahead of -2", hill.part(2), -1);
        CHECK.due("NONE ahead of -2", hill.part(-1), -1);
        AgeHill one = CHECK.hill("house a left 1;house b left 1;");
        Check.settleIn(one, 50, 0);
        Check.settleIn(one, 40, 1);
        CHECK.due("one top", one.least(-1, 0), 2);
        AgeHill full = CHECK.hill(Check.houses(1));
        Check.settleIn(full, 50, 0);
        int next = full.come(50, 50, false);
        CHECK.due("too few", full.least(next, 0), -2);
        CHECK.due("too few", full.leastAt(next, 0), -2);
        CHECK.due("no more", full.die(next), true);
        CHECK.due("no more", full.least(next, 0), -1);
    }

    private static void steps() {
        AgeHill hill = CHECK.hill(Check.houses(4) + "step 20;");
        Check.settleIn(hill, 39, 0);
        Check.settleIn(hill, 30, 1);
        Check.settleIn(hill, 25, 2);
        Check.settleIn(hill, 38, 3);
        // Step 1: 39 30 25 38 to be 25 30 38 39: one stays. Step 10: 3 3 2 3: the last one stays.
        CHECK.due("steps(1)", hill.steps(1), 3);
        CHECK.due("steps(10)", hill.steps(10), 3);
        CHECK.due("steps(20)", hill.steps(20), 0);
        CHECK.due("steps(13)", hill.steps(13), 3);
        CHECK.due("STEP stays", hill.count(8), 20);
        CHECK.due("as it is", hill.least(-1, 0), 0);
        AgeHill liars = CHECK.hill(Check.houses(2));
        liars.come(20, 50, false);
        liars.come(30, 40, false);
        liars.live(0, 1);
        liars.live(1, 0);
        CHECK.due("by told ages", liars.steps(1), 0);
        CHECK.due("by told ages", liars.least(-1, 0), 0);
        CHECK.due("by told ages", liars.marry(0, 1, true), 0);
    }

    private static void means() {
        CHECK.due("one empty house", CHECK.hill(Check.houses(1)).mean(), 0);
        AgeHill full = CHECK.hill(Check.houses(1));
        Check.settleIn(full, 50, 0);
        CHECK.due("it can't be", full.mean(), 2400);
        AgeHill held = CHECK.hill(Check.houses(1) + "comes=age;");
        Check.settleIn(held, 50, 0);
        // 1 + .. + 9 and 90 times 9.
        CHECK.due("held to 9", held.mean(), 24 * 855);
        AgeHill least = CHECK.hill(Check.houses(1) + "comes=age-95+month+size+lame;");
        Check.settleIn(least, 50, 0);
        least.months(5);
        CHECK.due("1 + 2 + 3 + 4", least.mean(), 240);
        AgeHill low = CHECK.hill(Check.houses(2) + "comes=2;");
        Check.settleIn(low, 30, 0);
        CHECK.due("the younger ones", low.mean(), 60);
        AgeHill high = CHECK.hill(Check.houses(2) + "step 10;");
        Check.settleIn(high, 35, 1);
        CHECK.due("from 30 on", high.mean(), 70);
    }

    private static void newHouses() {
        AgeHill hill = CHECK.hill(Check.houses(1));
        Check.settleIn(hill, 30, 0);
        CHECK.due("above it", hill.where(true), 1);
        CHECK.due("30 of them", hill.where(false), 30);
        CHECK.due("nothing changes", hill.count(0), 1);
        CHECK.due("nothing changes", hill.family(0, 3), 0);
        AgeHill alike = CHECK.hill(Check.houses(1));
        Check.settleIn(alike, 50, 0);
        CHECK.due("the least p", alike.where(true), 0);
        CHECK.due("50 of them", alike.where(false), 50);
        AgeHill two = CHECK.hill(Check.houses(2));
        Check.settleIn(two, 30, 0);
        Check.settleIn(two, 60, 1);
        // Below: 30 * 0 + 30 * 1 + 40 * 2. Between: 30 * 1 + 0 + 40 * 1. Above: 30 * 2 + 30 * 1 + 0.
        CHECK.due("between", two.where(true), 1);
        CHECK.due("70", two.where(false), 70);
        CHECK.due("24 houses", CHECK.hill(Check.houses(24)).where(true), -2);
        CHECK.due("23 houses", CHECK.hill(Check.houses(23)).where(false), 0);
    }

    private static void gaps() {
        AgeHill hill = CHECK.hill(Check.houses(3));
        Check.settleIn(hill, 30, 1);
        CHECK.due("above", hill.gap(), 2);
        hill.months(12 * 20);
        CHECK.due("alike ones", hill.gap(), 0);
        Check.settleIn(hill, 9, 0);
        CHECK.due("the one", hill.gap(), 2);
        Check.settleIn(hill, 99, 2);
        CHECK.due("none is empty", hill.gap(), -2);
        CHECK.due("nobody", CHECK.hill(Check.houses(1)).gap(), 0);
        CHECK.due("no house", new AgeHill().gap(), -2);
    }

    private static void parts() {
        AgeHill left = CHECK.hill("house a left 1;house b left 1;house c left 1;");
        Check.settleIn(left, 60, 0);
        Check.settleIn(left, 20, 1);
        CHECK.due("one top: one moves", left.part(0), 1);
        CHECK.due("both on it", left.part(1), 3);
        AgeHill tight = CHECK.hill("house a left 1;house b left 1;");
        Check.settleIn(tight, 60, 0);
        Check.settleIn(tight, 20, 1);
        CHECK.due("no room: both move", tight.part(0), 2);
        CHECK.due("both on the left", tight.part(1), 3);
        AgeHill right = CHECK.hill("house a right 1;house b right 1;house c 1;");
        Check.settleIn(right, 60, 0);
        Check.settleIn(right, 20, 1);
        CHECK.due("no room: both move", right.part(0), 2);
        CHECK.due("none on the left", right.part(1), 0);
        AgeHill fewer = CHECK.hill("house a left 1;house b left 1;house c left 1;house d right 1;house e 1;");
        Check.settleIn(fewer, 60, 0);
        Check.settleIn(fewer, 50, 1);
        Check.settleIn(fewer, 10, 4);
        // The older one to c, or the other one to d: the fewest on the left.
        CHECK.due("one moves", fewer.part(0), 1);
        CHECK.due("one on the left, the least", fewer.part(1), 1);
        AgeHill stay = CHECK.hill("house a left 1;house b right 1;house c left 1;house d right 1;");
        Check.settleIn(stay, 10, 0);
        Check.settleIn(stay, 90, 1);
        Check.settleIn(stay, 20, 2);
        Check.settleIn(stay, 95, 3);
        CHECK.due("all stay", stay.part(0), 0);
        CHECK.due("first and third", stay.part(1), 5);
        AgeHill alike = CHECK.hill("house a left 1;house b left 1;step 20;house c right 1;");
        Check.settleIn(alike, 39, 0);
        Check.settleIn(alike, 20, 1);
        CHECK.due("alike ones by houses", alike.part(0), 0);
        AgeHill twelve = CHECK.hill(topHouses());
        for (int i = 0; i < 12; i++) {
            Check.settleIn(twelve, 90 - i, i);
        }
        // Six on each top upside down with no room: of two that stay the higher one would be younger.
        CHECK.due("twelve", twelve.part(0), 10);
        AgeHill thirteen = CHECK.hill(topHouses() + "house y left 3;");
        for (int i = 0; i < 13; i++) {
            Check.settleIn(thirteen, 10 + i, i);
        }
        CHECK.due("thirteen", thirteen.part(0), -2);
        CHECK.due("thirteen", thirteen.part(1), -2);
        CHECK.due("no such what", thirteen.part(2), -1);
        thirteen.die(12);
        CHECK.due("twelve in order", thirteen.part(0), 0);
        CHECK.due("every other one", thirteen.part(1), 0b010101010101);
    }

    private static void largest() {
        AgeHill empty = CHECK.hill(Check.houses(24));
        CHECK.due("24 empty: least", empty.least(-1, 0), 0);
        CHECK.due("24 empty: mean", empty.mean(), 0);
        CHECK.due("24 empty: gap", empty.gap(), 0);
        CHECK.due("24 empty: part", empty.part(0), 0);
        int first = empty.come(40, 40, false);
        CHECK.due("24 empty: who comes", empty.leastAt(first, first), 0);
        AgeHill full = CHECK.hill(Check.houses(24));
        for (int i = 0; i < 24; i++) {
            Check.settleIn(full, 90 - i, i);
        }
        // Two that stay would be upside down, and in a full hill of even size none is in the middle.
        CHECK.due("24 upside down", full.least(-1, 0), 24);
        CHECK.due("24 upside down", full.leastAt(-1, 0), 23);
        CHECK.due("24 full: mean", full.mean(), 2400);
        CHECK.due("24 full: gap", full.gap(), -2);
        int more = full.come(50, 50, false);
        CHECK.due("24 full: who comes", full.least(more, 0), -2);
        CHECK.due("24 full: a year", full.years(1, 1, 2), 24);
        CHECK.due("24 full: all lawful", full.unlawful(0), 0);
        AgeHill half = CHECK.hill(Check.houses(24));
        for (int i = 0; i < 12; i++) {
            Check.settleIn(half, 90 - i, i);
        }
        // One of those above the middle can stay, whoever comes.
        CHECK.due("12 upside down", half.least(-1, 0), 11);
        CHECK.due("12 upside down: mean", half.mean(), 1100);
        CHECK.due("12 upside down: gap", half.gap(), 12);
        CHECK.due("12 upside down: where", half.where(false), -2);
        StringBuilder tops = new StringBuilder();
        for (int h = 0; h < 24; h++) {
            tops.append("house ").append((char) ('a' + h)).append(h < 12 ? " left 1;" : " right 1;");
        }
        AgeHill twice = CHECK.hill(tops.toString());
        for (int i = 0; i < 6; i++) {
            Check.settleIn(twice, 90 - i, i);
            Check.settleIn(twice, 90 - i, 12 + i);
        }
        // One stays on each top at most, and there is room for all to go below or above it.
        CHECK.due("12 and 12 houses", twice.part(0), 10);
    }

    private static String topHouses() {
        StringBuilder text = new StringBuilder();
        for (int h = 0; h < 12; h++) {
            text.append("house ").append((char) ('a' + h)).append(h % 2 == 0 ? " left 1;" : " right 1;");
        }
        return text.toString();
    }
}
