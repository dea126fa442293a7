/** Promises 7 to 17: people, families, where they live, months, what is unlawful, the row. */
public final class PromisesOfPeople {
    private static final Check CHECK = new Check("PromisesOfPeople");

    public static void main(String[] args) {
        coming();
        room();
        joining();
        dying();
        asking();
        living();
        loving();
        months();
        lawful();
        tops();
        liesAndOtherwise();
        rows();
        CHECK.end();
    }

    private static void coming() {
        AgeHill hill = new AgeHill();
        CHECK.due("come", hill.come(0, 99, false), 0);
        CHECK.due("come", hill.come(99, 0, true), 1);
        int[][] no = {{-1, 5}, {5, -1}, {100, 5}, {5, 100}, {Integer.MIN_VALUE, 0}, {0, Integer.MAX_VALUE}};
        for (int[] ages : no) {
            CHECK.due("come of no such age", hill.come(ages[0], ages[1], false), -1);
        }
        CHECK.due("came", hill.count(12), 2);
        CHECK.due("come", hill.come(7, 7, false), 2);
        CHECK.due("his family", hill.person(2, 3), 2);
    }

    private static void room() {
        AgeHill hill = new AgeHill();
        for (int i = 0; i < 30; i++) {
            CHECK.due("come", hill.come(50, 50, false), i);
            if (i % 2 == 1) {
                hill.die(i);
            } else if (i > 0) {
                hill.join(i, 0);
            }
        }
        CHECK.due("31st family", hill.come(50, 50, false), -1);
        CHECK.due("families that came", hill.count(13), 30);
        CHECK.due("people that came", hill.count(12), 30);
        CHECK.due("people that are", hill.count(1), 15);
        CHECK.due("families that are", hill.count(2), 10);
    }

    private static void joining() {
        AgeHill hill = CHECK.hill(Check.houses(3));
        for (int i = 0; i < 8; i++) {
            hill.come(10 * i, 10 * i, i % 3 == 0);
        }
        hill.live(1, 2);
        CHECK.due("join", hill.join(1, 0), true);
        CHECK.due("his own is no more", hill.family(1, 0), -1);
        CHECK.due("its house is empty", hill.house(2, 2), -2);
        CHECK.due("he is there", hill.person(1, 3), 0);
        CHECK.due("size", hill.family(0, 0), 2);
        CHECK.due("his own", hill.join(1, 0), false);
        CHECK.due("of no more", hill.join(2, 1), false);
        CHECK.due("no such family", hill.join(2, 8), false);
        CHECK.due("no such family", hill.join(2, -1), false);
        CHECK.due("no such person", hill.join(8, 0), false);
        CHECK.due("no such person", hill.join(-1, 0), false);
        for (int i = 2; i < 6; i++) {
            CHECK.due("join", hill.join(i, 0), true);
        }
        CHECK.due("six are in it", hill.family(0, 0), 6);
        CHECK.due("lame ones", hill.family(0, 5), 2);
        CHECK.due("a seventh", hill.join(6, 0), false);
        CHECK.due("he stays", hill.person(6, 3), 6);
        hill.live(0, 1);
        CHECK.due("one leaves", hill.join(0, 6), true);
        CHECK.due("they go on living there", hill.house(1, 2), 0);
        CHECK.due("size", hill.family(0, 0), 5);
        CHECK.due("lame ones", hill.family(0, 5), 1);
        hill.die(5);
        CHECK.due("who is no more", hill.join(5, 6), false);
    }

    private static void dying() {
        AgeHill hill = CHECK.hill(Check.houses(3));
        hill.come(30, 30, false);
        hill.come(40, 40, true);
        hill.join(1, 0);
        hill.live(0, 1);
        CHECK.due("die", hill.die(1), true);
        CHECK.due("again", hill.die(1), false);
        CHECK.due("person", hill.person(1, 0), -1);
        CHECK.due("family is", hill.family(0, 0), 1);
        CHECK.due("its age", hill.family(0, 1), 30);
        CHECK.due("its lame ones", hill.family(0, 5), 0);
        CHECK.due("its house", hill.house(1, 2), 0);
        CHECK.due("die", hill.die(0), true);
        CHECK.due("family of nobody", hill.family(0, 0), -1);
        CHECK.due("house is empty", hill.house(1, 2), -2);
        CHECK.due("no such one", hill.die(2), false);
        CHECK.due("no such one", hill.die(-1), false);
        CHECK.due("people", hill.count(1), 0);
        CHECK.due("families", hill.count(2), 0);
        CHECK.due("that live", hill.count(3), 0);
        CHECK.due("that came", hill.count(12), 2);
        CHECK.due("who comes is the next", hill.come(1, 1, false), 2);
        CHECK.due("no more lives", hill.live(0, 0), false);
    }

    private static void asking() {
        AgeHill hill = CHECK.hill("house a 1;step 7;by mean;");
        hill.months(7);
        hill.come(60, 33, true);
        int[] person = {60, 33, 1, 0};
        for (int what = 0; what < 4; what++) {
            CHECK.due("person(0, " + what + ")", hill.person(0, what), person[what]);
        }
        CHECK.due("person(0, 4)", hill.person(0, 4), -1);
        CHECK.due("person(0, -1)", hill.person(0, -1), -1);
        CHECK.due("person(1, 0)", hill.person(1, 0), -1);
        hill.come(10, 10, false);
        hill.come(11, 11, false);
        hill.join(1, 0);
        hill.join(2, 0);
        // (33 + 10 + 11) by 3 is 18; by 7 it is 2.
        int[] family = {3, 18, 2, -2, -2, 1};
        for (int what = 0; what < 6; what++) {
            CHECK.due("family(0, " + what + ")", hill.family(0, what), family[what]);
        }
        hill.die(2);
        // 43 by 2, rounded down.
        CHECK.due("mean of two", hill.family(0, 1), 21);
        hill.live(0, 0);
        hill.love(0, 0);
        CHECK.due("family(0, 3)", hill.family(0, 3), 0);
        CHECK.due("family(0, 4)", hill.family(0, 4), 0);
        CHECK.due("family(0, 6)", hill.family(0, 6), -1);
        CHECK.due("family(0, -1)", hill.family(0, -1), -1);
        CHECK.due("family(3, 0)", hill.family(3, 0), -1);
        CHECK.due("family(-1, 0)", hill.family(-1, 0), -1);
        AgeHill other = CHECK.hill("house a 1;step 7;");
        other.come(60, 33, true);
        other.come(10, 10, false);
        other.join(1, 0);
        CHECK.due("eldest", other.family(0, 1), 33);
        CHECK.due("key", other.family(0, 2), 4);
    }

    private static void living() {
        AgeHill hill = CHECK.hill(Check.houses(3));
        hill.come(1, 1, false);
        hill.come(2, 2, false);
        CHECK.due("nowhere already", hill.live(0, -1), true);
        CHECK.due("live", hill.live(0, 2), true);
        CHECK.due("its own", hill.live(0, 2), false);
        CHECK.due("not empty", hill.live(1, 2), false);
        CHECK.due("move", hill.live(0, 1), true);
        CHECK.due("the old one is empty", hill.house(2, 2), -2);
        CHECK.due("live", hill.live(1, 2), true);
        CHECK.due("no such house", hill.live(1, 3), false);
        CHECK.due("no such house", hill.live(1, -2), false);
        CHECK.due("no such family", hill.live(2, 0), false);
        CHECK.due("no such family", hill.live(-1, 0), false);
        CHECK.due("no such family", hill.live(-1, -1), false);
        CHECK.due("still there", hill.house(2, 2), 1);
        CHECK.due("that live", hill.count(3), 2);
        CHECK.due("nowhere", hill.live(1, -1), true);
        CHECK.due("empty", hill.house(2, 2), -2);
        CHECK.due("that live", hill.count(3), 1);
    }

    private static void loving() {
        AgeHill hill = CHECK.hill(Check.houses(2));
        hill.come(1, 1, false);
        CHECK.due("love", hill.love(0, 1), true);
        CHECK.due("it does", hill.family(0, 4), 1);
        CHECK.due("no such house", hill.love(0, 2), false);
        CHECK.due("no such house", hill.love(0, -2), false);
        CHECK.due("it does", hill.family(0, 4), 1);
        CHECK.due("none", hill.love(0, -1), true);
        CHECK.due("it does not", hill.family(0, 4), -2);
        CHECK.due("no such family", hill.love(1, 0), false);
        CHECK.due("no such family", hill.love(-1, -1), false);
        hill.die(0);
        CHECK.due("no more", hill.love(0, 0), false);
    }

    private static void months() {
        AgeHill hill = CHECK.hill("house a 1;");
        CHECK.due("months(0)", hill.months(0), 0);
        CHECK.due("months(5)", hill.months(5), 5);
        hill.come(20, 30, false);
        CHECK.due("months(11)", hill.months(11), 16);
        CHECK.due("not yet a year", hill.person(0, 0), 20);
        CHECK.due("months(1)", hill.months(1), 17);
        CHECK.due("a year", hill.person(0, 0), 21);
        CHECK.due("a year", hill.person(0, 1), 31);
        CHECK.due("months(-1)", hill.months(-1), -1);
        CHECK.due("months(241)", hill.months(241), -1);
        CHECK.due("months(240)", hill.months(240), 257);
        for (int i = 0; i < 3; i++) {
            hill.months(240);
        }
        CHECK.due("month", hill.count(4), 977);
        CHECK.due("beyond 1200", hill.months(224), -1);
        CHECK.due("still", hill.count(4), 977);
        CHECK.due("to 1200", hill.months(223), 1200);
        CHECK.due("more", hill.months(1), -1);
        CHECK.due("none more", hill.months(0), 1200);
        // 1195 months are 99 years.
        CHECK.due("old", hill.person(0, 1), 129);
    }

    private static void lawful() {
        AgeHill hill = CHECK.hill(Check.houses(5) + "step 10;forgive if gap==1 and month<3;forgive if lame==1 and age<60;");
        hill.come(59, 59, false);
        hill.come(30, 30, false);
        hill.come(25, 25, false);
        hill.come(49, 49, true);
        hill.live(0, 0);
        hill.live(1, 2);
        hill.live(2, 3);
        hill.live(3, 4);
        // Keys 5 . 3 2 4: (0,2) by 2, (0,3) by 3, (0,4) by 1 forgiven, (2,3) by 1 forgiven.
        CHECK.due("unlawful", hill.unlawful(0), 2);
        CHECK.due("pair(0)", hill.pair(0), 2);
        CHECK.due("pair(1)", hill.pair(1), 3);
        CHECK.due("pair(2)", hill.pair(2), -1);
        CHECK.due("pair(-1)", hill.pair(-1), -1);
        hill.months(3);
        CHECK.due("in month 3", hill.unlawful(0), 4);
        CHECK.due("pair(0)", hill.pair(0), 2);
        CHECK.due("pair(1)", hill.pair(1), 3);
        CHECK.due("pair(2)", hill.pair(2), 4);
        CHECK.due("pair(3)", hill.pair(3), 203);
        CHECK.due("pair(4)", hill.pair(4), -1);
        hill.months(9);
        // A year on all keys but the third's and the fourth's go up: 6 . 3 2 5; month 0.
        CHECK.due("in month 12", hill.unlawful(0), 2);
        hill.live(3, 1);
        hill.live(0, -1);
        // . 5 3 2: the one with a lame one of 50 below is forgiven, (2,3) too.
        CHECK.due("lame one below", hill.unlawful(0), 0);
        CHECK.due("what 3", hill.unlawful(3), -1);
        CHECK.due("what -1", hill.unlawful(-1), -1);
        AgeHill plain = CHECK.hill(Check.houses(2));
        Check.settleIn(plain, 30, 0);
        Check.settleIn(plain, 30, 1);
        CHECK.due("alike ones", plain.unlawful(0), 0);
    }

    private static void tops() {
        AgeHill hill = CHECK.hill("house a 1;house b left 1;house c right 1;house d left 1;house e 1;");
        int[] ages = {90, 80, 70, 60, 50};
        for (int i = 0; i < 5; i++) {
            Check.settleIn(hill, ages[i], i);
        }
        // All ten twos but b c and c d.
        CHECK.due("unlawful", hill.unlawful(0), 8);
        int[] pairs = {1, 2, 3, 4, 103, 104, 204, 304, -1};
        for (int i = 0; i < pairs.length; i++) {
            CHECK.due("pair(" + i + ")", hill.pair(i), pairs[i]);
        }
    }

    private static void liesAndOtherwise() {
        AgeHill hill = CHECK.hill(Check.houses(2) + "step 5;forgive if age==71;");
        hill.come(72, 40, false);
        hill.come(20, 20, false);
        hill.come(50, 50, false);
        hill.join(1, 0);
        hill.live(0, 0);
        hill.live(2, 1);
        CHECK.due("told", hill.unlawful(0), 0);
        CHECK.due("lies", hill.unlawful(1), 1);
        CHECK.due("otherwise", hill.unlawful(2), 0);
        AgeHill other = CHECK.hill(Check.houses(2) + "by mean;");
        other.come(72, 70, false);
        other.come(20, 20, false);
        other.come(46, 46, false);
        other.join(1, 0);
        other.live(0, 0);
        other.live(2, 1);
        // Means 45 told, 46 true, eldest 70.
        CHECK.due("told", other.unlawful(0), 0);
        CHECK.due("lies", other.unlawful(1), 0);
        CHECK.due("otherwise", other.unlawful(2), 1);
        AgeHill forgiven = CHECK.hill(Check.houses(2) + "forgive if age==72 and gap==22;");
        forgiven.come(72, 73, false);
        forgiven.come(50, 51, false);
        forgiven.live(0, 0);
        forgiven.live(1, 1);
        CHECK.due("told", forgiven.unlawful(0), 1);
        CHECK.due("lies by true ages in the rule too", forgiven.unlawful(1), 0);
    }

    private static void rows() {
        AgeHill hill = CHECK.hill(Check.houses(6) + "step 10;");
        Check.settleIn(hill, 55, 5);
        Check.settleIn(hill, 38, 3);
        Check.settleIn(hill, 31, 4);
        Check.settleIn(hill, 59, 0);
        hill.come(1, 1, false);
        int[] row = {1, 2, 3, 0, -1, -1};
        for (int i = 0; i < row.length; i++) {
            CHECK.due("row(" + i + ")", hill.row(i), row[i]);
        }
        CHECK.due("row(-1)", hill.row(-1), -1);
    }
}
