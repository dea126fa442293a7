/** Promises 34 to 37: years by lots, holding and taking up again, counts. */
public final class PromisesOfYears {
    private static final Check CHECK = new Check("PromisesOfYears");

    public static void main(String[] args) {
        wrongOnes();
        deaths();
        comers();
        best();
        near();
        sort();
        late();
        fullHill();
        noMoreComing();
        slots();
        counts();
        CHECK.end();
    }

    private static int lot(int n, int seed, int which) {
        int h = (seed ^ 17) * 1103515245 + 12345;
        h ^= h >>> 15;
        h = (h ^ which) * 1103515245 + 12345;
        h ^= h >>> 15;
        return (h >>> 1) % n;
    }

    private static boolean comes(int seed) {
        return lot(100, seed, 100) < 50;
    }

    private static int age(int seed) {
        return lot(90, seed, 101);
    }

    /** A seed with which in the first year somebody of such an age comes, or nobody does (-1). */
    private static int seedFor(int lowest, int highest) {
        for (int seed = -5000; seed < 5000; seed++) {
            if (lowest < 0 ? !comes(seed) : comes(seed) && age(seed) >= lowest && age(seed) <= highest) {
                return seed;
            }
        }
        CHECK.due("there is a seed", 0, 1);
        return 0;
    }

    private static void wrongOnes() {
        AgeHill hill = CHECK.hill("house a left 1;house b right 1;");
        CHECK.due("n 0", hill.years(1, 0, 0), -1);
        CHECK.due("n 41", hill.years(1, 41, 0), -1);
        CHECK.due("rule -1", hill.years(1, 1, -1), -1);
        CHECK.due("rule 4", hill.years(1, 1, 4), -1);
        CHECK.due("two tops", hill.years(1, 1, 0), -2);
        CHECK.due("nothing happens", hill.count(4), 0);
        for (int i = 0; i < 3; i++) {
            hill.months(240);
        }
        hill.months(1);
        CHECK.due("above 1200, ahead of -2", hill.years(1, 40, 0), -1);
        CHECK.due("not above", hill.years(1, 39, 0), -2);
        AgeHill one = CHECK.hill(Check.houses(2));
        for (int i = 0; i < 3; i++) {
            one.months(240);
        }
        CHECK.due("to 1200", one.years(1, 40, 1), 0);
        CHECK.due("month", one.count(4), 1200);
        CHECK.due("more", one.years(1, 1, 1), -1);
    }

    private static void deaths() {
        for (int seed = 0; seed < 40; seed++) {
            AgeHill hill = CHECK.hill(Check.houses(2) + "dies=age+lame*30;");
            for (int p = 0; p < 8; p++) {
                hill.come(0, 10 * p, p % 2 == 0);
            }
            hill.years(seed, 1, 1);
            for (int p = 0; p < 8; p++) {
                // A year has gone by first.
                boolean dead = lot(100, seed, p) < 10 * p + 1 + (p % 2 == 0 ? 30 : 0);
                CHECK.due("seed " + seed + ": " + p + " is", hill.person(p, 1), dead ? -1 : 10 * p + 1);
            }
        }
        AgeHill all = CHECK.hill(Check.houses(2) + "dies=100;");
        Check.settleIn(all, 5, 0);
        all.years(seedFor(-1, -1), 1, 0);
        CHECK.due("all die", all.count(1), 0);
        CHECK.due("houses are empty", all.house(0, 2), -2);
        AgeHill second = CHECK.hill(Check.houses(2) + "dies=50;");
        second.come(5, 5, false);
        for (int seed = 0; seed < 20; seed++) {
            second.hold(0);
            second.years(seed, 2, 1);
            boolean dead = lot(100, seed, 0) < 50 || lot(100, seed, 200) < 50;
            CHECK.due("two years of seed " + seed, second.person(0, 1), dead ? -1 : 7);
            second.restore(0);
        }
    }

    private static void comers() {
        for (int seed = -30; seed < 30; seed++) {
            AgeHill hill = CHECK.hill(Check.houses(3));
            CHECK.due("nobody moves", hill.years(seed, 1, seed & 3), 0);
            CHECK.due("seed " + seed + ": who came", hill.count(12), comes(seed) ? 1 : 0);
            CHECK.due("his age", hill.person(0, 0), comes(seed) ? age(seed) : -1);
            CHECK.due("told alike", hill.person(0, 1), comes(seed) ? age(seed) : -1);
            CHECK.due("lame", hill.person(0, 2), comes(seed) ? (lot(9, seed, 102) == 0 ? 1 : 0) : -1);
            CHECK.due("he lives", hill.count(3), comes(seed) ? 1 : 0);
        }
    }

    private static void homes(AgeHill hill, int... in) {
        for (int h = 0; h < in.length; h++) {
            CHECK.due("house(" + h + ", 2)", hill.house(h, 2), in[h]);
        }
    }

    private static AgeHill row(int houses, String more, int... agesAndHouses) {
        AgeHill hill = CHECK.hill(Check.houses(houses) + more);
        for (int i = 0; i < agesAndHouses.length; i += 2) {
            Check.settleIn(hill, agesAndHouses[i], agesAndHouses[i + 1]);
        }
        return hill;
    }

    private static void best() {
        // 60 in 0, 30 in 1: somebody between, so 60 goes up; all fill 1, 2, 3 or he takes 2.
        AgeHill hill = row(4, "", 60, 0, 30, 1);
        CHECK.due("one moves", hill.years(seedFor(35, 55), 1, 0), 1);
        homes(hill, -2, 1, 2, 0);
        AgeHill nobody = row(4, "", 60, 0, 30, 1);
        CHECK.due("all anew without him", nobody.years(seedFor(-1, -1), 1, 0), 1);
        homes(nobody, -2, 1, 0, -2);
        AgeHill full = row(2, "", 60, 0, 30, 1);
        CHECK.due("no room, but all anew", full.years(seedFor(0, 89), 1, 0), 2);
        homes(full, 1, 0);
        CHECK.due("he is no more", full.person(2, 0), -1);
        CHECK.due("he came", full.count(12), 3);
        CHECK.due("families that are", full.count(2), 2);
    }

    private static void near() {
        // Two live with his key or less: 2 is taken, 1 and 3 are as near, so the lower one.
        AgeHill hill = row(5, "step 10;", 20, 0, 35, 2, 80, 4);
        CHECK.due("no one else moves", hill.years(seedFor(40, 49), 1, 1), 0);
        homes(hill, 0, 3, 1, -2, 2);
        AgeHill unlawful = row(5, "", 80, 0, 20, 1);
        CHECK.due("no one moves", unlawful.years(seedFor(-1, -1), 1, 1), 0);
        homes(unlawful, 0, 1, -2, -2, -2);
        // One lives with his key (both 4 by 10): 1 is taken, then 0 is lower than 2.
        AgeHill alike = row(4, "step 10;", 43, 1);
        alike.years(seedFor(40, 49), 1, 1);
        homes(alike, 1, 0, -2, -2);
        AgeHill younger = row(4, "step 10;", 43, 1);
        younger.years(seedFor(50, 59), 1, 1);
        homes(younger, 1, 0, -2, -2);
        AgeHill high = row(4, "", 10, 0, 11, 1, 12, 2);
        high.years(seedFor(50, 89), 1, 1);
        homes(high, 0, 1, 2, 3);
        // None lives with his key or less: 0 is the nearest.
        AgeHill low = row(4, "", 90, 2);
        low.years(seedFor(0, 80), 1, 1);
        homes(low, 1, -2, 0, -2);
        // Three live with his key or less, in 0, 1, 2; the oldest in 5: 3 is nearest, not 4.
        AgeHill third = row(7, "step 10;", 10, 0, 22, 1, 47, 2, 85, 5);
        third.years(seedFor(41, 46), 1, 1);
        homes(third, 0, 1, 2, 4, -2, 3, -2);
        // Two live with his key or less, but 0 to 3 are taken by them and by older ones: 4.
        AgeHill up = row(6, "", 10, 0, 11, 1, 95, 2, 96, 3);
        up.years(seedFor(30, 80), 1, 1);
        homes(up, 0, 1, 2, 3, 4, -2);
        AgeHill full = row(1, "", 43, 0);
        full.years(seedFor(0, 89), 1, 1);
        CHECK.due("he is no more", full.count(1), 1);
        homes(full, 0);
    }

    private static void sort() {
        AgeHill hill = row(5, "", 60, 0, 30, 1);
        CHECK.due("both move up", hill.years(seedFor(35, 55), 1, 2), 2);
        homes(hill, -2, -2, 1, 2, 0);
        AgeHill nobody = row(4, "", 60, 3, 30, 1);
        CHECK.due("one moves up", nobody.years(seedFor(-1, -1), 1, 2), 1);
        homes(nobody, -2, -2, 1, 0);
        AgeHill filled = row(3, "", 60, 0, 30, 1);
        CHECK.due("just room", filled.years(seedFor(35, 55), 1, 2), 2);
        homes(filled, 1, 2, 0);
        for (int f = 0; f < 3; f++) {
            CHECK.due("its house", filled.family(f, 3), f == 0 ? 2 : f == 1 ? 0 : 1);
        }
        AgeHill full = row(2, "", 60, 0, 30, 1);
        CHECK.due("they change", full.years(seedFor(0, 89), 1, 2), 2);
        homes(full, 1, 0);
        CHECK.due("he is no more", full.count(1), 2);
    }

    private static void late() {
        // Put by near he is lawful: one below him by key, so house 1; nothing else is wrong.
        AgeHill hill = row(4, "", 20, 0, 80, 3);
        CHECK.due("nobody moves", hill.years(seedFor(30, 70), 1, 3), 0);
        homes(hill, 0, 2, -2, 1);
        AgeHill wrong = row(4, "", 80, 0, 20, 1);
        CHECK.due("all anew", wrong.years(seedFor(-1, -1), 1, 3), 1);
        homes(wrong, -2, 1, 0, -2);
        AgeHill forgiven = row(4, "forgive if 1<2;", 80, 0, 20, 1);
        CHECK.due("not if it is forgiven", forgiven.years(seedFor(-1, -1), 1, 3), 0);
        homes(forgiven, 0, 1, -2, -2);
        // By near he of 30 to 70 comes to 0 as 1 is taken, below 20 in 1; he may move then, and counts:
        // 20 to 0 would cost as much, but needs two.
        AgeHill moved = row(4, "", 20, 1);
        CHECK.due("he himself moves", moved.years(seedFor(30, 70), 1, 3), 1);
        homes(moved, -2, 0, 1, -2);
    }

    private static void fullHill() {
        AgeHill hill = CHECK.hill("dies=0;");
        CHECK.due("no houses", hill.years(3, 40, 0), 0);
        CHECK.due("nobody stays", hill.count(1), 0);
        CHECK.due("some came", hill.count(12) > 5, true);
        CHECK.due("month", hill.count(4), 480);
    }

    private static void noMoreComing() {
        AgeHill hill = CHECK.hill(Check.houses(3));
        for (int i = 0; i < 30; i++) {
            hill.come(50, 50, false);
        }
        hill.years(seedFor(0, 89), 1, 0);
        CHECK.due("30 families came", hill.count(13), 30);
        CHECK.due("nobody lives", hill.count(3), 0);
        CHECK.due("all are", hill.count(1), 30);
    }

    private static void slots() {
        AgeHill hill = CHECK.hill(Check.houses(3));
        Check.settleIn(hill, 50, 0);
        hill.love(0, 2);
        hill.move(4, 0, 1);
        hill.months(7);
        CHECK.due("nothing is held", hill.restore(0), false);
        CHECK.due("hold(-1)", hill.hold(-1), false);
        CHECK.due("hold(2)", hill.hold(2), false);
        CHECK.due("hold(0)", hill.hold(0), true);
        CHECK.due("slots", hill.count(7), 1);
        CHECK.due("restore(1)", hill.restore(1), false);
        CHECK.due("restore(-1)", hill.restore(-1), false);
        CHECK.due("restore(2)", hill.restore(2), false);
        Check.settleIn(hill, 60, 2);
        hill.come(5, 5, true);
        hill.join(2, 0);
        hill.live(0, 1);
        hill.love(0, 0);
        hill.forget();
        hill.months(30);
        CHECK.due("hold(1)", hill.hold(1), true);
        CHECK.due("slots", hill.count(7), 2);
        hill.feed(0, 0, 0, 0, 0);
        for (int again = 0; again < 2; again++) {
            CHECK.due("restore(0)", hill.restore(0), true);
            int[] counts = {3, 1, 1, 1, 7, 1, 20, 2, 1, 3, 0, 0, 1, 1};
            for (int what = 0; what < counts.length; what++) {
                CHECK.due("held: count(" + what + ")", hill.count(what), counts[what]);
            }
            CHECK.due("lives", hill.family(0, 3), 0);
            CHECK.due("loves", hill.family(0, 4), 2);
            CHECK.due("size", hill.family(0, 0), 1);
            CHECK.due("age", hill.person(0, 0), 50);
            homes(hill, 0, -2, -2);
            CHECK.due("the move", hill.done(), 1);
            homes(hill, -2, 0, -2);
            hill.die(0);
        }
        CHECK.due("restore(1)", hill.restore(1), true);
        CHECK.due("month", hill.count(4), 37);
        CHECK.due("size", hill.family(0, 0), 2);
        CHECK.due("lame ones", hill.family(0, 5), 1);
        homes(hill, -2, 0, 1);
        CHECK.due("hold(0) anew", hill.hold(0), true);
        hill.die(1);
        hill.restore(0);
        homes(hill, -2, 0, 1);
        numbersUsedAgain();
    }

    private static void numbersUsedAgain() {
        AgeHill hill = CHECK.hill(Check.houses(3) + "lane 9;");
        hill.hold(0);
        hill.months(6);
        hill.come(61, 55, true);
        hill.live(0, 1);
        hill.love(0, 2);
        hill.move(7, 0, 2);
        hill.hold(1);
        hill.restore(0);
        hill.come(3, 4, false);
        hill.come(5, 6, false);
        hill.live(1, 1);
        hill.move(8, 1, 0);
        hill.restore(1);
        hill.months(11);
        CHECK.due("not yet a year", hill.person(0, 0), 61);
        hill.months(1);
        CHECK.due("TRUE age", hill.person(0, 0), 62);
        CHECK.due("told age", hill.person(0, 1), 56);
        CHECK.due("lame", hill.person(0, 2), 1);
        CHECK.due("lame ones", hill.family(0, 5), 1);
        CHECK.due("loves", hill.family(0, 4), 2);
        homes(hill, -2, 0, -2);
        CHECK.due("people", hill.count(12), 1);
        CHECK.due("its move is made", hill.done(), 1);
        homes(hill, -2, -2, 0);
    }

    private static void counts() {
        AgeHill hill = CHECK.hill("house a 1;house b 2;house c 3;step 4;lane 5;by mean;forgive if 1<2;forgive if 1<2;");
        for (int i = 0; i < 5; i++) {
            hill.come(i, i, false);
        }
        hill.join(1, 0);
        hill.die(2);
        hill.live(0, 0);
        hill.live(3, 1);
        hill.months(13);
        hill.move(0, 0, 2);
        hill.move(0, 0, 2);
        hill.hold(1);
        hill.feed(1, 2, 3, 4, 5);
        hill.back(3);
        int[] counts = {3, 4, 3, 2, 13, 2, 17, 1, 4, 5, 2, 1, 5, 5};
        for (int what = 0; what < counts.length; what++) {
            CHECK.due("count(" + what + ")", hill.count(what), counts[what]);
        }
        CHECK.due("count(14)", hill.count(14), -1);
        CHECK.due("count(-1)", hill.count(-1), -1);
    }
}
