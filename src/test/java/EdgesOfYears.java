import java.util.function.IntPredicate;

/** The sentences of part V and of promises 34 to 37 that name a boundary, one by one; the empty and the full hill. */
public final class EdgesOfYears {
    private static final Check CHECK = new Check("EdgesOfYears");
    private static final int MIN = Integer.MIN_VALUE;
    private static final int MAX = Integer.MAX_VALUE;

    public static void main(String[] args) {
        lots();
        deaths();
        comers();
        best();
        near();
        sort();
        late();
        canNotBePut();
        howManyMoved();
        fortyYears();
        yearsAsked();
        slots();
        counted();
        nonesAhead();
        emptyHill();
        fullHill();
        lastCalls();
        CHECK.end();
    }

    /** LOT n of a seed and a which, as the document says it. */
    private static int lot(int n, int seed, int which) {
        int h = seed;
        for (int it : new int[] {17, which}) {
            h = inJustOne(h, it) * 1103515245 + 12345;
            h = inJustOne(h, h >>> 15);
        }
        return (h >>> 1) % n;
    }

    private static int inJustOne(int a, int b) {
        return (a | b) & ~(a & b);
    }

    private static boolean comes(int seed, int year) {
        return lot(100, seed, 200 * year + 100) < 50;
    }

    private static int age(int seed, int year) {
        return lot(90, seed, 200 * year + 101);
    }

    private static boolean lame(int seed, int year) {
        return lot(9, seed, 200 * year + 102) == 0;
    }

    private static int seed(IntPredicate wanted) {
        for (int seed = -30000; seed < 30000; seed++) {
            if (wanted.test(seed)) {
                return seed;
            }
        }
        CHECK.due("there is such a seed", 0, 1);
        return 0;
    }

    /** With it nobody comes in the first two YEARS. */
    private static int nobody() {
        return seed(s -> !comes(s, 0) && !comes(s, 1));
    }

    /** With it somebody of such an age comes in the first YEAR. */
    private static int one(int lowest, int highest) {
        return seed(s -> comes(s, 0) && age(s, 0) >= lowest && age(s, 0) <= highest);
    }

    private static AgeHill row(int houses, String more, int... agesAndHouses) {
        AgeHill hill = CHECK.hill(Check.houses(houses) + more);
        for (int i = 0; i < agesAndHouses.length; i += 2) {
            Check.settleIn(hill, agesAndHouses[i], agesAndHouses[i + 1]);
        }
        return hill;
    }

    private static void homes(String when, AgeHill hill, int... in) {
        for (int h = 0; h < in.length; h++) {
            CHECK.due(when + ": house(" + h + ", 2)", hill.house(h, 2), in[h]);
        }
    }

    // ---- lots ----

    private static void lots() {
        CHECK.sentence("the rest of h, moved 1 bit down likewise, by n (32 bits that wrap)");
        for (int seed : new int[] {0, 1, -1, MIN, MAX, 17, 123456789, -987654321}) {
            AgeHill hill = CHECK.hill(Check.houses(24));
            hill.years(seed, 40, 1);
            int came = 0;
            for (int year = 0; year < 40; year++) {
                if (comes(seed, year) && came < 24) {
                    CHECK.due("seed " + seed + ", YEAR " + year, hill.person(came, 0), age(seed, year) + 39 - year);
                    CHECK.due("seed " + seed + ", YEAR " + year, hill.person(came, 1), age(seed, year) + 39 - year);
                    CHECK.due("seed " + seed + ", YEAR " + year, hill.person(came, 2), lame(seed, year) ? 1 : 0);
                    came++;
                }
            }
            CHECK.due("seed " + seed + ": who live", hill.count(3), came);
        }
    }

    // ---- who dies ----

    private static void deaths() {
        diesIfBelow();
        diesHeld();
        onlyThoseThatAre();
        yearsGoBy();
    }

    /** Person p of those of told ages 0, 1, .. can die in that YEAR alone, by so many of 100 ways. */
    private static boolean dies(int seed, int year, int p, int ways) {
        int then = p + year + 1;
        AgeHill hill = CHECK.hill("dies=(1-(age-" + then + ")*(age-" + then + "))*" + ways + ";");
        for (int i = 0; i < 30; i++) {
            hill.come(50, i, false);
        }
        hill.years(seed, year + 1, 1);
        return hill.person(p, 0) == -1;
    }

    private static void diesIfBelow() {
        CHECK.sentence("dies if LOT 100 of which 200 * i + p is below what DIES says");
        for (int year : new int[] {0, 1, 39}) {
            for (int p : new int[] {0, 1, 29}) {
                for (int seed : new int[] {0, 7, -1, MIN, MAX}) {
                    int drawn = lot(100, seed, 200 * year + p);
                    String who = p + " in YEAR " + year + " of " + seed + " by ";
                    CHECK.due(who + drawn, dies(seed, year, p, drawn), false);
                    CHECK.due(who + (drawn + 1), dies(seed, year, p, drawn + 1), true);
                }
            }
        }
    }

    private static void diesHeld() {
        CHECK.sentence("what DIES says (held likewise)");
        int none = seed(s -> lot(100, s, 0) == 0);
        int most = seed(s -> lot(100, s, 0) == 99);
        String[] formulas = {"0", "0-1", "1", "99", "100", "101", "9999*9", "8192*8192*32", "1/0"};
        boolean[] ofNone = {false, false, true, true, true, true, true, false, false};
        boolean[] ofMost = {false, false, false, false, true, true, true, false, false};
        for (int i = 0; i < formulas.length; i++) {
            AgeHill hill = CHECK.hill("dies=" + formulas[i] + ";");
            hill.come(50, 50, false);
            hill.hold(0);
            hill.years(none, 1, 1);
            CHECK.due("LOT 0, dies=" + formulas[i], hill.person(0, 0) == -1, ofNone[i]);
            hill.restore(0);
            hill.years(most, 1, 1);
            CHECK.due("LOT 99, dies=" + formulas[i], hill.person(0, 0) == -1, ofMost[i]);
        }
    }

    private static void onlyThoseThatAre() {
        CHECK.sentence("each PERSON p (those that are, by numbers)");
        AgeHill hill = row(4, "dies=100;", 50, 0, 40, 1);
        hill.come(30, 30, true);
        hill.join(2, 0);
        hill.die(1);
        int seed = nobody();
        hill.years(seed, 1, 1);
        CHECK.due("PEOPLE that are", hill.count(1), 0);
        CHECK.due("FAMILIES that are", hill.count(2), 0);
        CHECK.due("that live", hill.count(3), 0);
        homes("all died", hill, -2, -2, -2, -2);
        hill.years(seed, 1, 1);
        CHECK.due("once more: PEOPLE that are", hill.count(1), 0);
        CHECK.due("that came", hill.count(12), 3);
        AgeHill last = row(2, "dies=(age-42)*100;", 50, 0, 30, 1);
        last.come(10, 10, false);
        last.join(2, 0);
        last.years(seed, 1, 1);
        homes("the eldest of one died", last, 0, 1);
        CHECK.due("its AGE", last.family(0, 1), 11);
    }

    private static void yearsGoBy() {
        CHECK.sentence("in YEAR i (from 0 on) 12 MONTHS go by");
        int seed = nobody();
        AgeHill hill = row(1, "dies=(age-50)*100;", 50, 0);
        hill.months(7);
        hill.years(seed, 1, 1);
        CHECK.due("they go by ahead of who dies", hill.count(1), 0);
        CHECK.due("MONTH", hill.count(4), 19);
        AgeHill next = row(1, "dies=(age-51)*100;", 50, 0);
        next.hold(0);
        next.years(seed, 1, 1);
        CHECK.due("not in YEAR 0", next.count(1), 1);
        next.restore(0);
        next.years(seed, 2, 1);
        CHECK.due("in YEAR 1", next.count(1), 0);
        AgeHill comes = CHECK.hill(Check.houses(2));
        int somebody = seed(s -> comes(s, 0) && !comes(s, 1));
        comes.years(somebody, 2, 1);
        CHECK.due("who comes in YEAR 0 is a YEAR more in YEAR 1", comes.person(0, 0), age(somebody, 0) + 1);
        AgeHill room = row(1, "dies=(age-50)*100;", 50, 0);
        room.years(one(0, 50), 1, 1);
        homes("who comes finds the HOUSE of who died", room, 1);
    }

    // ---- who comes ----

    private static void comers() {
        comesIfBelow();
        ageAndLame();
        unlessSoManyCame();
    }

    private static void comesIfBelow() {
        CHECK.sentence("then somebody comes if LOT 100 of which 200 * i + 100 is below 50");
        for (int year : new int[] {0, 1}) {
            for (int drawn : new int[] {0, 49, 50, 99}) {
                int seed = seed(s -> lot(100, s, 200 * year + 100) == drawn && !comes(s, 1 - year));
                for (int rule = 0; rule < 4; rule++) {
                    AgeHill hill = CHECK.hill(Check.houses(3));
                    hill.years(seed, year + 1, rule);
                    CHECK.due("LOT " + drawn + " in YEAR " + year, hill.count(12), drawn < 50 ? 1 : 0);
                    CHECK.due("LOT " + drawn + " in YEAR " + year, hill.count(3), drawn < 50 ? 1 : 0);
                }
            }
        }
    }

    private static void ageAndLame() {
        CHECK.sentence("of an age LOT 90 of which 200 * i + 101 (told and TRUE alike), lame if LOT 9 of which 200 * i + 102 is 0");
        for (int drawn : new int[] {0, 1, 88, 89}) {
            AgeHill hill = CHECK.hill(Check.houses(1));
            hill.years(one(drawn, drawn), 1, 2);
            CHECK.due("TRUE age by LOT " + drawn, hill.person(0, 0), drawn);
            CHECK.due("told age by LOT " + drawn, hill.person(0, 1), drawn);
        }
        for (int drawn : new int[] {0, 1, 8}) {
            AgeHill hill = CHECK.hill(Check.houses(1));
            hill.years(seed(s -> comes(s, 0) && lot(9, s, 102) == drawn), 1, 1);
            CHECK.due("lame by LOT " + drawn, hill.person(0, 2), drawn == 0 ? 1 : 0);
            CHECK.due("his FAMILY's lame ones", hill.family(0, 5), drawn == 0 ? 1 : 0);
        }
    }

    private static void unlessSoManyCame() {
        CHECK.sentence("unless 60 PEOPLE or 30 FAMILIES came");
        int both = seed(s -> comes(s, 0) && comes(s, 1));
        for (int came : new int[] {28, 29, 30}) {
            for (int rule = 0; rule < 4; rule++) {
                AgeHill hill = CHECK.hill(Check.houses(3));
                for (int i = 0; i < came; i++) {
                    hill.come(50, 50, false);
                }
                hill.die(0);
                hill.years(both, 2, rule);
                CHECK.due("of " + came + " FAMILIES that came", hill.count(13), 30);
                CHECK.due("of " + came + " PEOPLE that came", hill.count(12), 30);
                CHECK.due("who live", hill.count(3), 30 - came);
            }
        }
    }

    // ---- the four rules ----

    private static void best() {
        CHECK.sentence("0 BEST: who comes is put by LEAST, then LEAST ALL ANEW is done");
        AgeHill hill = row(4, "", 60, 0, 30, 1);
        CHECK.due("one moves for him of 40", hill.years(one(35, 55), 1, 0), 1);
        homes("he between", hill, -2, 1, 2, 0);
        AgeHill alone = row(4, "", 60, 0, 30, 1);
        CHECK.due("all anew though nobody comes", alone.years(nobody(), 1, 0), 1);
        homes("all anew", alone, -2, 1, 0, -2);
        AgeHill full = row(2, "", 60, 0, 30, 1);
        CHECK.due("all anew though he can't be put", full.years(one(0, 89), 1, 0), 2);
        homes("all anew", full, 1, 0);
        AgeHill first = CHECK.hill(Check.houses(4));
        CHECK.due("nobody moves for the first one", first.years(one(0, 89), 1, 0), 0);
        homes("in the least HOUSE", first, 0, -2, -2, -2);
    }

    private static void near() {
        nearest();
        keyOrLess();
    }

    private static int nearestTo(int wanted, int taken, int houses) {
        for (int far = 0; far <= houses; far++) {
            for (int h : new int[] {wanted - far, wanted + far}) {
                if (h >= 0 && h < houses && (taken >> h & 1) == 0) {
                    return h;
                }
            }
        }
        return -2;
    }

    private static void nearest() {
        CHECK.sentence("1 NEAR: who comes is put to the empty HOUSE whose number is nearest (of two the lower one)");
        int seed = one(40, 60);
        for (int taken = 0; taken < 64; taken++) {
            AgeHill hill = CHECK.hill(Check.houses(6));
            int live = 0;
            for (int h = 0; h < 6; h++) {
                if ((taken >> h & 1) == 1) {
                    Check.settleIn(hill, h % 2 == 0 ? 10 : 80, h);
                    live += h % 2 == 0 ? 1 : 0;
                }
            }
            int came = hill.count(13);
            CHECK.due("no one else moves", hill.years(seed, 1, 1), 0);
            int house = nearestTo(live, taken, 6);
            CHECK.due("he who comes to " + taken, hill.family(came, 3), house == -2 ? -1 : house);
            CHECK.due("who live", hill.count(3), Integer.bitCount(taken) + (house == -2 ? 0 : 1));
        }
    }

    private static void keyOrLess() {
        CHECK.sentence("to how many FAMILIES live with his KEY or less; no one else moves");
        int seed = one(40, 49);
        int[] ages = {38, 39, 48, 49};
        int[] due = {1, 1, 1, 0};
        for (int i = 0; i < ages.length; i++) {
            // A YEAR goes by: 39, 40, 49 and 50; by ten years the KEY of who comes is 4.
            AgeHill hill = row(3, "step 10;", ages[i], 2);
            hill.years(seed, 1, 1);
            CHECK.due("one of " + ages[i], hill.family(1, 3), due[i]);
        }
        AgeHill nowhere = row(3, "", 10, 2);
        nowhere.come(10, 10, false);
        nowhere.years(seed, 1, 1);
        CHECK.due("who lives nowhere does not count", nowhere.family(2, 3), 1);
        AgeHill wrong = row(4, "", 80, 0, 70, 1, 10, 3);
        CHECK.due("no one moves", wrong.years(nobody(), 2, 1), 0);
        homes("as before", wrong, 0, 1, -2, 2);
    }

    private static void sort() {
        CHECK.sentence("2 SORT: all of the ROW, who comes too, are put to the HOUSES from the top down without gaps, "
            + "the last one of the ROW to the highest");
        AgeHill first = CHECK.hill(Check.houses(4));
        CHECK.due("one alone", first.years(one(0, 89), 1, 2), 0);
        homes("to the highest", first, -2, -2, -2, 0);
        AgeHill hill = row(5, "", 60, 0, 30, 1);
        CHECK.due("both move", hill.years(one(35, 55), 1, 2), 2);
        homes("without gaps", hill, -2, -2, 1, 2, 0);
        AgeHill stays = row(4, "", 60, 3, 30, 2);
        CHECK.due("all are there", stays.years(nobody(), 1, 2), 0);
        homes("as before", stays, -2, -2, 1, 0);
        AgeHill alike = row(4, "step 10;", 43, 1, 41, 0);
        CHECK.due("alike ones, behind all with his KEY he", alike.years(one(42, 48), 1, 2), 2);
        homes("by their HOUSES", alike, -2, 1, 0, 2);
        AgeHill just = row(3, "", 60, 0, 30, 1);
        CHECK.due("just room", just.years(one(35, 55), 1, 2), 2);
        homes("all full", just, 1, 2, 0);
        AgeHill full = row(2, "", 60, 0, 30, 1);
        CHECK.due("no room", full.years(one(35, 55), 1, 2), 2);
        homes("sorted without him", full, 1, 0);
        CHECK.due("nobody", CHECK.hill(Check.houses(24)).years(nobody(), 1, 2), 0);
    }

    private static void late() {
        CHECK.sentence("3 LATE: who comes is put by NEAR; then LEAST ALL ANEW is done if something is UNLAWFUL.");
        AgeHill lawful = row(4, "", 20, 0, 80, 3);
        CHECK.due("nothing is", lawful.years(one(30, 70), 1, 3), 0);
        homes("put by NEAR", lawful, 0, 2, -2, 1);
        AgeHill wrong = row(4, "", 80, 0, 20, 1);
        CHECK.due("something is", wrong.years(nobody(), 1, 3), 1);
        homes("all anew", wrong, -2, 1, 0, -2);
        AgeHill forgiven = row(4, "forgive if gap==60;", 80, 0, 20, 1);
        CHECK.due("it is FORGIVEN", forgiven.years(nobody(), 1, 3), 0);
        homes("as before", forgiven, 0, 1, -2, -2);
        AgeHill half = row(4, "forgive if gap==59;", 80, 0, 20, 1);
        CHECK.due("it is not FORGIVEN", half.years(nobody(), 1, 3), 1);
        AgeHill alike = row(4, "step 20;", 39, 0, 22, 1);
        CHECK.due("of one KEY but for the YEAR", alike.years(nobody(), 1, 3), 1);
        AgeHill himself = row(4, "", 20, 1);
        CHECK.due("he is put below one of 20, then moves", himself.years(one(30, 70), 1, 3), 1);
        homes("he above", himself, -2, 0, 1, -2);
        AgeHill full = row(2, "", 80, 0, 20, 1);
        CHECK.due("all anew though he can't be put", full.years(one(30, 70), 1, 3), 2);
        homes("all anew", full, 1, 0);
    }

    private static void canNotBePut() {
        CHECK.sentence("Who comes and can't be put is no more at once.");
        for (int rule = 0; rule < 4; rule++) {
            AgeHill full = row(2, "", 30, 0, 60, 1);
            CHECK.due("nobody moves", full.years(one(0, 89), 1, rule), 0);
            CHECK.due("he came", full.count(12), 3);
            CHECK.due("his FAMILY came", full.count(13), 3);
            CHECK.due("he is no more", full.person(2, 0), -1);
            CHECK.due("his FAMILY is no more", full.family(2, 0), -1);
            CHECK.due("FAMILIES that are", full.count(2), 2);
            CHECK.due("the next one's number", full.come(5, 5, false), 3);
            homes("as before", full, 0, 1);
            AgeHill none = new AgeHill();
            CHECK.due("no HOUSES", none.years(one(0, 89), 1, rule), 0);
            CHECK.due("he came", none.count(12), 1);
            CHECK.due("he is no more", none.count(1), 0);
            AgeHill last = row(3, "", 30, 0, 60, 2);
            last.years(one(30, 59), 1, rule);
            CHECK.due("the last room", last.family(2, 3), 1);
        }
    }

    private static void howManyMoved() {
        CHECK.sentence("How many moved in all (who comes not counted as he is put).");
        int both = seed(s -> comes(s, 0) && comes(s, 1) && age(s, 0) > 20 && age(s, 0) < age(s, 1));
        for (int rule = 0; rule < 4; rule++) {
            AgeHill hill = CHECK.hill(Check.houses(4));
            // By SORT the first one must go down from the highest HOUSE as the older one comes.
            CHECK.due("two come by rule " + rule, hill.years(both, 2, rule), rule == 2 ? 1 : 0);
            CHECK.due("two live", hill.count(3), 2);
        }
        int younger = seed(s -> comes(s, 0) && comes(s, 1) && age(s, 0) > age(s, 1) + 1);
        // By LATE he is put to 1, as 0 is not empty; then the older one moves up.
        int[] moved = {1, 0, 0, 1};
        for (int rule = 0; rule < 4; rule++) {
            AgeHill hill = CHECK.hill(Check.houses(4));
            CHECK.due("a younger one comes by rule " + rule, hill.years(younger, 2, rule), moved[rule]);
        }
    }

    // ---- promise 34 ----

    private static AgeHill inMonth(int month) {
        AgeHill hill = CHECK.busyHill();
        for (int left = month - 14; left > 0; left -= 240) {
            hill.months(Math.min(left, 240));
        }
        return hill;
    }

    private static AgeHill onTwoTops(int month) {
        AgeHill hill = CHECK.hill("house a left 1;house b right 2;house c 3;");
        Check.settleIn(hill, 50, 0);
        Check.settleIn(hill, 40, 2);
        for (int left = month; left > 0; left -= 240) {
            hill.months(Math.min(left, 240));
        }
        return hill;
    }

    private static void fortyYears() {
        CHECK.sentence("YEARS by LOTS of a SEED, n (1 .. 40) by a rule");
        for (int rule = 0; rule < 4; rule++) {
            CHECK.due("0 YEARS", new AgeHill().years(5, 0, rule), -1);
            CHECK.due("41 YEARS", new AgeHill().years(5, 41, rule), -1);
            for (int n : new int[] {1, 40}) {
                AgeHill hill = CHECK.hill(Check.houses(24));
                hill.years(5, n, rule);
                int came = 0;
                for (int year = 0; year < n; year++) {
                    came += comes(5, year) ? 1 : 0;
                }
                CHECK.due("who came in " + n + " YEARS", hill.count(12), came);
                CHECK.due("MONTH after " + n + " YEARS", hill.count(4), 12 * n);
            }
        }
    }

    private static void yearsAsked() {
        CHECK.sentence("YEARS by LOTS: how many moved; -2, and nothing happens: there are two tops; NONE, and nothing happens: "
            + "no such n, rule, MONTH above 1200.");
        for (int rule = 0; rule < 4; rule++) {
            int by = rule;
            CHECK.due("1 YEAR by " + rule, CHECK.busyHill().years(5, 1, rule) >= 0, true);
            CHECK.due("40 YEARS by " + rule, CHECK.busyHill().years(5, 40, rule) >= 0, true);
            CHECK.due("40 YEARS of nobody by " + rule, new AgeHill().years(5, 40, rule), 0);
            CHECK.refused("years of two tops by " + rule, () -> onTwoTops(0), hill -> hill.years(5, 1, by), -2);
            for (int n : new int[] {0, 41, -1, MIN, MAX}) {
                CHECK.refused(n + " YEARS by " + rule, hill -> hill.years(5, n, by), -1);
                CHECK.refused(n + " YEARS of two tops", () -> onTwoTops(0), hill -> hill.years(5, n, by), -1);
            }
        }
        for (int rule : new int[] {-1, 4, MIN, MAX}) {
            CHECK.refused("years by " + rule, hill -> hill.years(5, 1, rule), -1);
            CHECK.refused("years of two tops by " + rule, () -> onTwoTops(0), hill -> hill.years(5, 1, rule), -1);
        }
        CHECK.due("40 YEARS to 1200", inMonth(720).years(5, 40, 0) >= 0, true);
        CHECK.refused("40 YEARS to 1201", () -> inMonth(721), hill -> hill.years(5, 40, 0), -1);
        CHECK.due("1 YEAR to 1200", inMonth(1188).years(5, 1, 0) >= 0, true);
        CHECK.refused("1 YEAR to 1201", () -> inMonth(1189), hill -> hill.years(5, 1, 0), -1);
        CHECK.refused("1 YEAR to 1212", () -> inMonth(1200), hill -> hill.years(5, 1, 3), -1);
        CHECK.refused("two tops, to 1200", () -> onTwoTops(1188), hill -> hill.years(5, 1, 0), -2);
        CHECK.refused("two tops, to 1201", () -> onTwoTops(1189), hill -> hill.years(5, 1, 0), -1);
        AgeHill last = inMonth(1188);
        last.years(5, 1, 1);
        CHECK.due("MONTH", last.count(4), 1200);
        CHECK.due("40 YEARS are 480 MONTHS", monthAfter(40), 494);
        CHECK.due("1 YEAR is 12 MONTHS", monthAfter(1), 26);
    }

    private static int monthAfter(int years) {
        AgeHill hill = CHECK.busyHill();
        hill.years(5, years, 2);
        return hill.count(4);
    }

    // ---- slots ----

    private static void slots() {
        held();
        notHeld();
        restored();
        whoCameSinceIsNot();
        numbersUsedAgain();
        notRestored();
    }

    private static void change(AgeHill hill) {
        hill.come(5, 6, true);
        hill.join(4, 1);
        hill.die(3);
        hill.live(0, 4);
        hill.live(6, 0);
        hill.love(0, 3);
        hill.love(6, 3);
        hill.come(7, 8, true);
        hill.join(7, 1);
        hill.months(17);
        hill.forget();
        hill.move(5, 1, 3);
        hill.move(9, 0, 0);
        hill.move(1, 0, 2);
        hill.move(4, 6, 2);
    }

    private static void held() {
        CHECK.sentence("All but the tape (the text, too) is held in a SLOT (0, 1): true; false: no such one.");
        for (int slot = 0; slot < 2; slot++) {
            AgeHill hill = CHECK.busyHill();
            AgeHill twin = CHECK.busyHill();
            CHECK.due("hold(" + slot + ")", hill.hold(slot), true);
            twin.hold(slot);
            CHECK.due("SLOTS", hill.count(7), slot + 1);
            change(hill);
            CHECK.due("restore(" + slot + ")", hill.restore(slot), true);
            CHECK.alike("after restore(" + slot + ")", hill, twin);
        }
        AgeHill tape = CHECK.busyHill();
        tape.hold(1);
        tape.back(13);
        tape.restore(1);
        CHECK.due("bytes on the tape", tape.count(6), 7);
        CHECK.due("the tape is as it was", tape.read(), 0);
        CHECK.due("STEP", tape.count(8), 7);
        CHECK.due("a text empties SLOTS", tape.restore(1), false);
        AgeHill full = fullOfAll();
        AgeHill twin = fullOfAll();
        full.hold(0);
        twin.hold(0);
        full.settle(-1);
        full.forget();
        full.die(29);
        full.restore(0);
        CHECK.alike("a full hill after restore(0)", full, twin);
    }

    private static void notHeld() {
        CHECK.sentence("false: no such one");
        for (int slot : new int[] {-1, 2, MIN, MAX}) {
            CHECK.refused("hold(" + slot + ")", hill -> hill.hold(slot) ? 1 : 0, 0);
        }
        AgeHill hill = CHECK.busyHill();
        hill.hold(0);
        CHECK.due("a SLOT held anew", hill.count(7), 1);
        change(hill);
        AgeHill twin = CHECK.busyHill();
        change(twin);
        hill.hold(0);
        twin.hold(0);
        hill.die(0);
        hill.restore(0);
        CHECK.alike("what a SLOT holds is what it held last", hill, twin);
    }

    private static void restored() {
        CHECK.sentence("All goes on from what a SLOT holds (that stays there): true");
        AgeHill hill = CHECK.busyHill();
        hill.hold(1);
        for (int again = 0; again < 3; again++) {
            change(hill);
            CHECK.due("restore(1)", hill.restore(1), true);
            CHECK.due("SLOTS", hill.count(7), 2);
        }
        AgeHill twin = CHECK.busyHill();
        twin.hold(1);
        CHECK.alike("after three", hill, twin);
        AgeHill both = CHECK.busyHill();
        change(both);
        both.hold(1);
        both.restore(0);
        CHECK.due("the one: MONTH", both.count(4), 14);
        CHECK.due("the one: PEOPLE that came", both.count(12), 6);
        CHECK.due("the one: MOVES", both.count(5), 0);
        both.restore(1);
        CHECK.due("the other one: MONTH", both.count(4), 31);
        CHECK.due("the other one: PEOPLE that came", both.count(12), 8);
        CHECK.due("the other one: MOVES", both.count(5), 4);
    }

    private static void whoCameSinceIsNot() {
        CHECK.sentence("All goes on from what a SLOT holds");
        AgeHill hill = row(3, "by mean;", 60, 0, 40, 1, 45, 2);
        hill.hold(0);
        hill.come(5, 5, true);
        hill.join(3, 1);
        CHECK.due("a mean of 35", hill.marry(0, 1, true), 0);
        hill.restore(0);
        CHECK.due("a mean of 50", hill.marry(0, 1, true), 1);
        CHECK.due("how many there are", hill.family(1, 0), 1);
        CHECK.due("how many are lame", hill.family(1, 5), 0);
        CHECK.due("he is not", hill.person(3, 0), -1);
        CHECK.due("nor does he die", hill.die(3), false);
        CHECK.due("nor does he join", hill.join(3, 0), false);
        CHECK.due("nor is his FAMILY", hill.family(3, 0), -1);
        CHECK.due("nor does it move", hill.move(0, 3, 0), -1);
    }

    private static void numbersUsedAgain() {
        CHECK.sentence("All goes on from what a SLOT holds");
        AgeHill hill = CHECK.hill(Check.houses(3));
        hill.hold(0);
        hill.months(6);
        hill.come(61, 55, true);
        hill.live(0, 1);
        hill.love(0, 2);
        hill.move(7, 0, 2);
        hill.hold(1);
        hill.restore(0);
        hill.come(3, 4, false);
        hill.come(5, 6, false);
        int[] fresh = {3, 4, 0, 0};
        int[] freshFamily = {1, 4, 4, -2, -2, 0};
        for (int what = 0; what < 6; what++) {
            CHECK.due("who comes anew: family(0, " + what + ")", hill.family(0, what), freshFamily[what]);
            CHECK.due("who comes anew: person(0, " + what + ")", hill.person(0, what), what < 4 ? fresh[what] : -1);
        }
        hill.live(1, 1);
        hill.move(8, 1, 0);
        hill.restore(1);
        hill.months(11);
        int[] due = {61, 55, 1, 0};
        for (int what = 0; what < 4; what++) {
            CHECK.due("11 MONTHS on: person(0, " + what + ")", hill.person(0, what), due[what]);
        }
        hill.months(1);
        CHECK.due("12 MONTHS on", hill.person(0, 0), 62);
        CHECK.due("the one that it LOVES", hill.family(0, 4), 2);
        CHECK.due("lame ones", hill.family(0, 5), 1);
        homes("taken up again", hill, -2, 0, -2);
        CHECK.due("its MOVE", hill.done(), 1);
        homes("made", hill, -2, -2, 0);
    }

    private static void notRestored() {
        CHECK.sentence("true; false, and nothing happens: no such one, nothing is held.");
        for (int slot : new int[] {-1, 1, 2, MIN, MAX}) {
            CHECK.refused("restore(" + slot + ")", hill -> hill.restore(slot) ? 1 : 0, 0);
        }
        for (int slot = 0; slot < 2; slot++) {
            int it = slot;
            CHECK.refused("restore(" + slot + ") of a new one", AgeHill::new, hill -> hill.restore(it) ? 1 : 0, 0);
        }
        AgeHill faulty = CHECK.busyHill();
        faulty.feed(0, 0, 0, 0, 0);
        CHECK.due("a FAULT", faulty.read(), 1);
        CHECK.due("leaves what is held", faulty.restore(0), true);
        CHECK.due("a text", faulty.read(), 0);
        CHECK.due("does not", faulty.restore(0), false);
    }

    // ---- counts ----

    /** 24 HOUSES that are full, 30 PEOPLE and FAMILIES, the last MONTH, 40 MOVES, 2,000 bytes, both SLOTS. */
    private static AgeHill fullOfAll() {
        AgeHill hill = CHECK.hill(Check.houses(24) + "step 20;lane 9;by mean;" + "forgive if 1<1;".repeat(6));
        for (int i = 0; i < 30; i++) {
            hill.come(60 - i, 60 - i, true);
            hill.live(i, i);
        }
        for (int i = 0; i < 5; i++) {
            hill.months(240);
        }
        for (int i = 0; i < 40; i++) {
            hill.move(99, 29, 23);
        }
        for (int i = 0; i < 100; i++) {
            hill.feed(0x20202020, 0x20202020, 0x20202020, 0x20202020, 0x20202020);
        }
        hill.hold(0);
        hill.hold(1);
        return hill;
    }

    private static void counted() {
        CHECK.sentence("0 HOUSES, 1 PEOPLE that are, 2 FAMILIES that are, 3 those that live, 4 MONTH, 5 MOVES, 6 bytes on the tape, "
            + "7 SLOTS that hold something, 8 STEP, 9 LANE, 10 RULES, 11: 0 BY eldest, 1 BY mean, 12 PEOPLE that came, "
            + "13 FAMILIES that came. NONE for others.");
        int[] ofNew = {0, 0, 0, 0, 0, 0, 0, 0, 1, 3, 0, 0, 0, 0};
        int[] ofFull = {24, 30, 30, 24, 1200, 40, 2000, 2, 20, 9, 6, 1, 30, 30};
        int[] ofBusy = {5, 5, 4, 3, 14, 2, 20, 1, 5, 2, 2, 1, 6, 6};
        for (int what = 0; what < 14; what++) {
            CHECK.due("new: count(" + what + ")", new AgeHill().count(what), ofNew[what]);
            CHECK.due("full: count(" + what + ")", fullOfAll().count(what), ofFull[what]);
            CHECK.due("busy: count(" + what + ")", CHECK.busyHill().count(what), ofBusy[what]);
        }
        for (int what : new int[] {-1, 14, 15, MIN, MAX}) {
            CHECK.due("new: count(" + what + ")", new AgeHill().count(what), -1);
            CHECK.due("full: count(" + what + ")", fullOfAll().count(what), -1);
        }
        AgeHill second = new AgeHill();
        second.hold(1);
        CHECK.due("SLOT 1 alone", second.count(7), 1);
        AgeHill dead = fullOfAll();
        dead.join(1, 0);
        dead.die(29);
        dead.live(2, -1);
        int[] after = {24, 29, 28, 22};
        for (int what = 0; what < after.length; what++) {
            CHECK.due("some are no more: count(" + what + ")", dead.count(what), after[what]);
        }
        CHECK.due("some are no more: count(12)", dead.count(12), 30);
        CHECK.due("some are no more: count(13)", dead.count(13), 30);
    }

    // ---- everywhere ----

    private static void nonesAhead() {
        CHECK.sentence("(NONE is looked at ahead of -2, everywhere.)");
        AgeHill tops = onTwoTops(0);
        int nowhere = tops.come(5, 5, false);
        CHECK.due("least", tops.least(nowhere, 0), -2);
        CHECK.due("least of one that lives", tops.least(0, 0), -1);
        CHECK.due("least of no such what", tops.least(nowhere, 3), -1);
        CHECK.due("leastAt", tops.leastAt(nowhere, 0), -2);
        CHECK.due("leastAt of one that lives", tops.leastAt(0, 1), -1);
        CHECK.due("leastAt not of that ROW", tops.leastAt(-1, nowhere), -1);
        CHECK.due("settle", tops.settle(nowhere), -2);
        CHECK.due("settle of one that lives", tops.settle(1), -1);
        CHECK.due("steps", tops.steps(20), -2);
        CHECK.due("steps of no such s", tops.steps(21), -1);
        CHECK.due("marry", tops.marry(0, 1, true), -2);
        CHECK.due("marry of one that lives nowhere", tops.marry(0, nowhere, true), -1);
        CHECK.due("years", tops.years(1, 40, 3), -2);
        CHECK.due("years of no such n", tops.years(1, 41, 3), -1);
        CHECK.due("years of no such rule", tops.years(1, 40, 4), -1);
        CHECK.due("change", tops.change(0), -2);
        CHECK.due("change of no such what", tops.change(2), -1);
        tops.love(nowhere, 1);
        CHECK.due("waits", tops.waits(nowhere, 8), -2);
        CHECK.due("waits of no such n", tops.waits(nowhere, 9), -1);
        CHECK.due("house", tops.house(1, 2), -2);
        CHECK.due("house of no such what", tops.house(1, 3), -1);
    }

    private static void emptyHill() {
        CHECK.sentence("`AgeHill()`: Nothing is told.");
        AgeHill hill = new AgeHill();
        int[] answers = {hill.back(1), hill.place(), hill.house(0, 0), hill.person(0, 0), hill.family(0, 0), hill.pair(0), hill.row(0),
            hill.least(0, 0), hill.leastAt(-1, 0), hill.settle(0), hill.move(0, 0, 0), hill.worth(0, 0), hill.marry(0, 1, false)};
        for (int i = 0; i < answers.length; i++) {
            CHECK.due("a new one's NONE " + i, answers[i], -1);
        }
        int[] cannot = {hill.gap(), hill.change(0), hill.change(1)};
        for (int i = 0; i < cannot.length; i++) {
            CHECK.due("a new one's -2 " + i, cannot[i], -2);
        }
        int[] zero = {hill.read(), hill.months(0), hill.unlawful(0), hill.unlawful(1), hill.unlawful(2), hill.least(-1, 0), hill.least(-1, 1),
            hill.least(-1, 2), hill.settle(-1), hill.steps(20), hill.where(true), hill.where(false), hill.part(0), hill.part(1), hill.forget(),
            hill.judge(), hill.done()};
        for (int i = 0; i < zero.length; i++) {
            CHECK.due("a new one's 0 " + i, zero[i], 0);
        }
        CHECK.due("a new one's MEAN", hill.mean(), 2400);
        CHECK.due("a new one's WAITS", hill.waits(0, 1), -1);
        boolean[] refused = {hill.join(0, 0), hill.die(0), hill.live(0, 0), hill.love(0, 0), hill.restore(0)};
        for (int i = 0; i < refused.length; i++) {
            CHECK.due("a new one's false " + i, refused[i], false);
        }
    }

    private static void fullHill() {
        CHECK.sentence("HOUSES are numbered from 0, the lowest, on as they stand (on the left top, the right one, or neither; "
            + "how GOOD, 0 .. 99), 24 at most.");
        AgeHill hill = fullOfAll();
        // All are 100 more; by 20 years KEYS are 8 of 160, 7 of 159 to 140, 6 of 139 to 137 in the highest three.
        CHECK.due("KEY of the first", hill.family(0, 2), 8);
        CHECK.due("KEY of the last one that lives", hill.family(23, 2), 6);
        CHECK.due("UNLAWFUL", hill.unlawful(0), 1 * 20 + 1 * 3 + 20 * 3);
        CHECK.due("LIES", hill.unlawful(1), 83);
        CHECK.due("OTHERWISE", hill.unlawful(2), 83);
        CHECK.due("the first two", hill.pair(0), 1);
        CHECK.due("the last two", hill.pair(82), 2023);
        CHECK.due("no more", hill.pair(83), -1);
        CHECK.due("the first of the ROW", hill.row(0), 21);
        CHECK.due("the last of the ROW", hill.row(23), 0);
        CHECK.due("all anew", hill.least(-1, 0), 24);
        CHECK.due("its COSTS", hill.least(-1, 1), 24);
        CHECK.due("its CARTS", hill.least(-1, 2), 3);
        CHECK.due("the first one", hill.leastAt(-1, 0), 23);
        CHECK.due("by one year", hill.steps(1), 24);
        CHECK.due("no one more", hill.least(29, 0), -2);
        CHECK.due("no one more", hill.settle(24), -2);
        CHECK.due("no one more comes", hill.come(5, 5, false), -1);
        CHECK.due("MEAN", hill.mean(), 2400);
        CHECK.due("WHERE", hill.where(true), -2);
        CHECK.due("GAP", hill.gap(), -2);
        CHECK.due("PART of no tops", hill.part(0), 0);
        CHECK.due("the first MOVE is wrong", hill.judge(), 1);
        CHECK.due("so nothing is done", hill.done(), -2);
        CHECK.due("no YEAR more", hill.years(1, 1, 0), -1);
        CHECK.due("no byte more", hill.feed(0, 0, 0, 0, 0), -1);
        CHECK.due("two of one KEY marry", hill.marry(22, 23, true), 23);
        CHECK.due("settle", hill.settle(-1), 24);
        CHECK.due("nothing is UNLAWFUL", hill.unlawful(0), 0);
    }

    private static void lastCalls() {
        CHECK.sentence("An object is used for at most 512 calls after it has been made");
        AgeHill hill = row(6, "dies=age/4;", 30, 0, 60, 1, 50, 3);
        hill.hold(0);
        int due = hill.years(99, 40, 0);
        // Some twenty were made by now.
        for (int calls = 20; calls < 510; calls += 2) {
            hill.restore(0);
            CHECK.due("years(99, 40, 0) once more", hill.years(99, 40, 0), due);
        }
    }
}
