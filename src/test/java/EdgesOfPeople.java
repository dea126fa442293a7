/** The sentences of part II and of promises 7 to 17 that name a boundary, one by one. */
public final class EdgesOfPeople {
    private static final Check CHECK = new Check("EdgesOfPeople");
    private static final int MIN = Integer.MIN_VALUE;
    private static final int MAX = Integer.MAX_VALUE;

    public static void main(String[] args) {
        people();
        ages();
        law();
        coming();
        joining();
        dying();
        asking();
        living();
        loving();
        months();
        lawAsked();
        CHECK.end();
    }

    private static int one(boolean answer) {
        return answer ? 1 : 0;
    }

    // ---- people and families ----

    private static void people() {
        numbered();
        whoComes();
        sixInOne();
        ownIsNoMore();
        familyOfNobody();
        houseIsForOne();
        lovesOne();
    }

    private static AgeHill thirtyCame() {
        AgeHill hill = CHECK.hill(Check.houses(2));
        for (int i = 0; i < 30; i++) {
            hill.come(i, i, false);
        }
        return hill;
    }

    private static void numbered() {
        CHECK.sentence("PEOPLE, 60 at most, and FAMILIES, 30 at most, are numbered from 0 on as they come");
        AgeHill hill = new AgeHill();
        // Everybody who comes is a FAMILY, so that a 31st PERSON never comes, still less a 61st.
        for (int i = 0; i < 30; i++) {
            CHECK.due("come", hill.come(i, i, false), i);
            CHECK.due("his family", hill.person(i, 3), i);
        }
        CHECK.due("the 31st", hill.come(0, 0, false), -1);
        CHECK.due("PEOPLE that came", hill.count(12), 30);
        CHECK.due("FAMILIES that came", hill.count(13), 30);
        CHECK.due("the last one's age", hill.person(29, 0), 29);
        CHECK.due("person(30, 0)", hill.person(30, 0), -1);
        CHECK.due("family(30, 0)", hill.family(30, 0), -1);
        AgeHill some = new AgeHill();
        some.come(1, 1, false);
        some.come(2, 2, false);
        some.join(0, 1);
        some.die(1);
        CHECK.due("numbers are not used again", some.come(3, 3, false), 2);
        CHECK.due("his family", some.person(2, 3), 2);
    }

    private static void whoComes() {
        CHECK.sentence("Who comes is a FAMILY by himself that lives nowhere");
        AgeHill hill = CHECK.hill(Check.houses(1));
        hill.come(44, 44, true);
        int[] due = {1, 44, 44, -2, -2, 1};
        for (int what = 0; what < 6; what++) {
            CHECK.due("family(0, " + what + ")", hill.family(0, what), due[what]);
        }
        CHECK.due("that live", hill.count(3), 0);
        CHECK.due("row(0)", hill.row(0), -1);
    }

    /** Family 0 of the first so many of seven; the others are each alone. */
    private static AgeHill familyOf(int size) {
        AgeHill hill = CHECK.hill(Check.houses(3));
        for (int i = 0; i < 7; i++) {
            hill.come(10 * i, 10 * i, i % 2 == 1);
        }
        for (int i = 1; i < size; i++) {
            hill.join(i, 0);
        }
        return hill;
    }

    private static void sixInOne() {
        CHECK.sentence("he may JOIN another one (6 at most in one");
        for (int size = 1; size < 6; size++) {
            AgeHill hill = familyOf(size);
            CHECK.due("one more to " + size, hill.join(6, 0), true);
            CHECK.due("how many there are", hill.family(0, 0), size + 1);
            CHECK.due("the greatest age", hill.family(0, 1), 60);
            CHECK.due("lame ones", hill.family(0, 5), size / 2);
        }
        CHECK.refused("one more to 6", () -> familyOf(6), hill -> one(hill.join(6, 0)), 0);
        AgeHill hill = familyOf(6);
        hill.die(3);
        CHECK.due("one more to 6 less 1", hill.join(6, 0), true);
        CHECK.due("how many there are", hill.family(0, 0), 6);
    }

    private static void ownIsNoMore() {
        CHECK.sentence("his own is no more then, if he was its last; its HOUSE is empty");
        AgeHill hill = familyOf(2);
        hill.live(0, 1);
        hill.live(2, 2);
        CHECK.due("one of two leaves", hill.join(0, 2), true);
        CHECK.due("his own goes on", hill.family(0, 0), 1);
        CHECK.due("in its house", hill.house(1, 2), 0);
        CHECK.due("the last one leaves", hill.join(1, 2), true);
        CHECK.due("it is no more", hill.family(0, 0), -1);
        CHECK.due("its house is empty", hill.house(1, 2), -2);
        CHECK.due("that are", hill.count(2), 5);
        CHECK.due("that live", hill.count(3), 1);
        CHECK.due("no one joins it", hill.join(5, 0), false);
        CHECK.due("the house is free", hill.live(5, 1), true);
    }

    private static void familyOfNobody() {
        CHECK.sentence("Who DIES is no more (nor a FAMILY of nobody).");
        AgeHill hill = familyOf(2);
        hill.live(0, 1);
        CHECK.due("one of two", hill.die(0), true);
        CHECK.due("he is no more", hill.person(0, 0), -1);
        CHECK.due("the family goes on", hill.family(0, 0), 1);
        CHECK.due("in its house", hill.house(1, 2), 0);
        CHECK.due("the last one", hill.die(1), true);
        CHECK.due("the family is no more", hill.family(0, 0), -1);
        CHECK.due("its house is empty", hill.house(1, 2), -2);
        CHECK.due("that are", hill.count(2), 5);
        CHECK.due("who is no more does not join", hill.join(0, 4), false);
        AgeHill lame = familyOf(4);
        CHECK.due("lame ones of four", lame.family(0, 5), 2);
        lame.die(1);
        CHECK.due("a lame one is no more", lame.family(0, 5), 1);
        lame.join(3, 6);
        CHECK.due("the other one left", lame.family(0, 5), 0);
        CHECK.due("he is there", lame.family(6, 5), 1);
        lame.die(0);
        CHECK.due("no lame one is left", lame.family(0, 5), 0);
    }

    private static void houseIsForOne() {
        CHECK.sentence("A FAMILY lives in one HOUSE or nowhere; a HOUSE is for one.");
        AgeHill hill = familyOf(1);
        hill.live(0, 0);
        hill.live(0, 2);
        CHECK.due("not in two", hill.house(0, 2), -2);
        CHECK.due("in the other one", hill.house(2, 2), 0);
        CHECK.due("not two in one", hill.live(1, 2), false);
        CHECK.due("as before", hill.house(2, 2), 0);
        CHECK.due("nowhere", hill.family(1, 3), -2);
    }

    private static void lovesOne() {
        CHECK.sentence("It LOVES one HOUSE, or none.");
        AgeHill hill = familyOf(1);
        CHECK.due("none at first", hill.family(0, 4), -2);
        hill.love(0, 0);
        hill.love(0, 2);
        CHECK.due("one", hill.family(0, 4), 2);
        hill.love(1, 2);
        CHECK.due("two may love one", hill.family(1, 4), 2);
        CHECK.due("still", hill.family(0, 4), 2);
        hill.love(0, -1);
        CHECK.due("none", hill.family(0, 4), -2);
    }

    // ---- ages ----

    private static void ages() {
        monthsRest();
        agesAtThatMonth();
        yearsWithMonths();
        eldestOrMean();
        keys();
    }

    private static void monthsRest() {
        CHECK.sentence("MONTH 0 at first; month is its rest by 12");
        AgeHill hill = CHECK.hill("house a 1;worth=month+100;cost=month;");
        hill.come(5, 5, false);
        int[] at = {0, 11, 12, 13, 23, 24};
        int[] due = {0, 11, 0, 1, 11, 0};
        int now = 0;
        for (int i = 0; i < at.length; i++) {
            CHECK.due("months", hill.months(at[i] - now), at[i]);
            now = at[i];
            CHECK.due("month in MONTH " + now, hill.worth(0, 0), 100 + due[i]);
            CHECK.due("month in MONTH " + now, hill.least(0, 1), due[i]);
        }
    }

    private static void agesAtThatMonth() {
        CHECK.sentence("A PERSON comes with a TRUE age and an age that he TELLS (0 .. 99 YEARS at that MONTH), lame or not");
        AgeHill hill = new AgeHill();
        int came = 0;
        for (int month : new int[] {0, 11, 12, 240, 1199, 1200}) {
            for (int left = month - hill.count(4); left > 0; left -= 240) {
                hill.months(Math.min(left, 240));
            }
            CHECK.due("of 0 in MONTH " + month, hill.come(0, 99, true), came);
            CHECK.due("of 99 in MONTH " + month, hill.come(99, 0, false), came + 1);
            int[][] due = {{0, 99, 1}, {99, 0, 0}};
            for (int i = 0; i < 2; i++) {
                for (int what = 0; what < 3; what++) {
                    CHECK.due("person(" + (came + i) + ", " + what + ") in MONTH " + month, hill.person(came + i, what), due[i][what]);
                }
            }
            CHECK.due("of 100 in MONTH " + month, hill.come(100, 0, false), -1);
            CHECK.due("of -1 in MONTH " + month, hill.come(0, -1, false), -1);
            came += 2;
        }
    }

    private static void yearsWithMonths() {
        CHECK.sentence("each becomes a YEAR more with every 12 MONTHS since");
        for (int came : new int[] {0, 1, 11, 12, 13}) {
            AgeHill hill = new AgeHill();
            hill.months(came);
            hill.come(0, 99, false);
            int passed = 0;
            for (int more : new int[] {11, 1, 11, 1, 240}) {
                hill.months(more);
                passed += more;
                CHECK.due(passed + " MONTHS after " + came + ": TRUE age", hill.person(0, 0), passed / 12);
                CHECK.due(passed + " MONTHS after " + came + ": told age", hill.person(0, 1), 99 + passed / 12);
            }
        }
        AgeHill oldest = new AgeHill();
        oldest.come(99, 99, false);
        for (int i = 0; i < 5; i++) {
            oldest.months(240);
        }
        CHECK.due("after 1200 MONTHS", oldest.person(0, 0), 199);
        CHECK.due("a FAMILY's AGE", oldest.family(0, 1), 199);
        CHECK.due("who comes in the last MONTH", oldest.come(99, 0, false), 1);
        CHECK.due("is as old as he comes", oldest.person(1, 0), 99);
    }

    private static AgeHill family(String text, int... ages) {
        AgeHill hill = CHECK.hill(text);
        for (int i = 0; i < ages.length; i++) {
            hill.come(99 - ages[i], ages[i], false);
            hill.join(i, 0);
        }
        return hill;
    }

    private static void eldestOrMean() {
        CHECK.sentence("the greatest told age of its PEOPLE, or (BY mean) the sum by how many, rounded down.");
        CHECK.due("eldest of one", family("", 7).family(0, 1), 7);
        CHECK.due("eldest first", family("", 8, 7).family(0, 1), 8);
        CHECK.due("eldest last", family("", 7, 8).family(0, 1), 8);
        CHECK.due("eldest of six", family("", 1, 2, 99, 3, 4, 5).family(0, 1), 99);
        CHECK.due("eldest of none older than 0", family("", 0, 0).family(0, 1), 0);
        CHECK.due("mean of one", family("by mean;", 7).family(0, 1), 7);
        CHECK.due("mean of 0 and 1", family("by mean;", 0, 1).family(0, 1), 0);
        CHECK.due("mean of 1 and 1", family("by mean;", 1, 1).family(0, 1), 1);
        CHECK.due("mean of 0, 0, 2", family("by mean;", 0, 0, 2).family(0, 1), 0);
        CHECK.due("mean of 0, 0, 3", family("by mean;", 0, 0, 3).family(0, 1), 1);
        CHECK.due("mean of six: 11", family("by mean;", 1, 2, 2, 2, 2, 2).family(0, 1), 1);
        CHECK.due("mean of six: 12", family("by mean;", 2, 2, 2, 2, 2, 2).family(0, 1), 2);
        AgeHill years = CHECK.hill("by mean;");
        years.come(0, 10, false);
        years.months(6);
        years.come(0, 11, false);
        years.join(1, 0);
        years.months(6);
        CHECK.due("mean of 11 and 11", years.family(0, 1), 11);
        years.months(5);
        CHECK.due("still", years.family(0, 1), 11);
        years.months(1);
        CHECK.due("mean of 11 and 12", years.family(0, 1), 11);
        years.months(6);
        CHECK.due("mean of 12 and 12", years.family(0, 1), 12);
    }

    private static void keys() {
        CHECK.sentence("KEY: AGE by STEP, rounded down.");
        int[] steps = {1, 1, 1, 20, 20, 20, 20, 20, 20, 20, 7, 7, 7, 10, 10};
        int[] ages = {0, 1, 99, 0, 1, 19, 20, 39, 40, 99, 6, 7, 13, 9, 10};
        int[] keys = {0, 1, 99, 0, 0, 0, 1, 1, 2, 4, 0, 1, 1, 0, 1};
        for (int i = 0; i < ages.length; i++) {
            CHECK.due(ages[i] + " by " + steps[i], family("step " + steps[i] + ";", ages[i]).family(0, 2), keys[i]);
        }
    }

    // ---- the law ----

    private static void law() {
        oneRow();
        greaterKey();
        forgiven();
        lies();
        otherwise();
        rowOfAlikeOnes();
        rowWithOneMore();
    }

    private static void oneRow() {
        CHECK.sentence("TWO HOUSES are in one row unless one is on the left top and the other one on the right.");
        String[] sides = {"", "left ", "right "};
        for (int low = 0; low < 3; low++) {
            for (int high = 0; high < 3; high++) {
                AgeHill hill = CHECK.hill("house a " + sides[low] + "1;house b " + sides[high] + "2;");
                Check.settleIn(hill, 50, 0);
                Check.settleIn(hill, 40, 1);
                boolean apart = low + high == 3 && low != 0 && high != 0;
                CHECK.due("'" + sides[low] + "' and '" + sides[high] + "'", hill.unlawful(0), apart ? 0 : 1);
            }
        }
    }

    private static AgeHill pairOf(String more, int lower, int higher) {
        AgeHill hill = CHECK.hill(Check.houses(4) + more);
        Check.settleIn(hill, lower, 1);
        Check.settleIn(hill, higher, 2);
        return hill;
    }

    private static void greaterKey() {
        CHECK.sentence("are UNLAWFUL if the lower KEY is the greater one, and it is not FORGIVEN");
        CHECK.due("one year younger", pairOf("", 49, 50).unlawful(0), 0);
        CHECK.due("alike", pairOf("", 50, 50).unlawful(0), 0);
        CHECK.due("one year older", pairOf("", 51, 50).unlawful(0), 1);
        CHECK.due("older, of one KEY", pairOf("step 10;", 59, 50).unlawful(0), 0);
        CHECK.due("of the next KEY", pairOf("step 10;", 60, 59).unlawful(0), 1);
        CHECK.due("0 and 99", pairOf("", 0, 99).unlawful(0), 0);
        CHECK.due("99 and 0", pairOf("", 99, 0).unlawful(0), 1);
        CHECK.due("a RULE that does not hold", pairOf("forgive if 1<1;", 51, 50).unlawful(0), 1);
        AgeHill hill = pairOf("", 51, 50);
        hill.live(0, -1);
        CHECK.due("no one lives in the lower one", hill.unlawful(0), 0);
        hill.live(0, 1);
        hill.live(1, -1);
        CHECK.due("no one lives in the higher one", hill.unlawful(0), 0);
    }

    private static void forgiven() {
        CHECK.sentence("FORGIVEN: some RULE holds (age, size, lame: AGE, how many there are, how many of them are lame, "
            + "of the lower FAMILY; gap: by how much its KEY is greater; month).");
        String[] rules = {"age==59", "size==2", "lame==1", "gap==3", "month==11"};
        for (String rule : rules) {
            for (int change = 0; change < 2; change++) {
                // The second time the RULE asks for less than there is.
                String asked = change == 0 ? rule : rule.substring(0, rule.indexOf('=')) + "<" + rule.substring(rule.indexOf('=') + 2);
                AgeHill hill = CHECK.hill(Check.houses(2) + "step 10;forgive if " + asked + ";");
                hill.come(59, 59, true);
                hill.come(5, 5, false);
                hill.come(29, 29, false);
                hill.come(29, 29, true);
                hill.come(29, 29, true);
                hill.join(1, 0);
                hill.join(3, 2);
                hill.join(4, 2);
                hill.live(0, 0);
                hill.live(2, 1);
                hill.months(11);
                CHECK.due("forgive if " + asked, hill.unlawful(0), change);
            }
        }
        CHECK.due("some RULE, the first", pairOf("forgive if 1==1;forgive if 1==2;", 9, 8).unlawful(0), 0);
        CHECK.due("some RULE, the last", pairOf("forgive if 1==2;forgive if 1==1;", 9, 8).unlawful(0), 0);
        CHECK.due("no RULE", pairOf("forgive if 1==2;forgive if 1==2;", 9, 8).unlawful(0), 1);
    }

    private static void lies() {
        CHECK.sentence("LIES: UNLAWFUL ones by TRUE ages.");
        AgeHill hill = CHECK.hill(Check.houses(2));
        hill.come(51, 10, false);
        hill.come(50, 20, false);
        hill.live(0, 0);
        hill.live(1, 1);
        CHECK.due("told", hill.unlawful(0), 0);
        CHECK.due("by TRUE ages", hill.unlawful(1), 1);
        hill.live(0, -1);
        hill.live(1, 0);
        hill.live(0, 1);
        CHECK.due("told", hill.unlawful(0), 1);
        CHECK.due("by TRUE ages", hill.unlawful(1), 0);
        AgeHill alike = CHECK.hill(Check.houses(2));
        alike.come(50, 99, false);
        alike.come(50, 0, false);
        alike.live(0, 0);
        alike.live(1, 1);
        CHECK.due("alike by TRUE ages", alike.unlawful(1), 0);
        CHECK.due("BY mean", pairOf("by mean;", 50, 49).unlawful(1), 1);
    }

    private static void otherwise() {
        CHECK.sentence("OTHERWISE: UNLAWFUL ones BY the other of eldest and mean.");
        for (String by : new String[] {"by eldest;", "by mean;"}) {
            AgeHill hill = CHECK.hill(Check.houses(3) + by);
            hill.come(0, 60, false);
            hill.come(0, 41, false);
            hill.come(0, 50, false);
            hill.come(0, 55, false);
            hill.join(1, 0);
            hill.live(0, 0);
            hill.live(2, 1);
            hill.live(3, 2);
            // Eldest 60, 50, 55: two are wrong; mean 50, 50, 55: none is.
            boolean mean = by.equals("by mean;");
            CHECK.due(by, hill.unlawful(0), mean ? 0 : 2);
            CHECK.due("other than " + by, hill.unlawful(2), mean ? 2 : 0);
        }
    }

    private static void rowOfAlikeOnes() {
        CHECK.sentence("A ROW: all FAMILIES that live, by KEYS, of alike ones by their HOUSES");
        AgeHill hill = CHECK.hill(Check.houses(6) + "step 10;");
        Check.settleIn(hill, 30, 5);
        Check.settleIn(hill, 39, 3);
        Check.settleIn(hill, 29, 4);
        Check.settleIn(hill, 40, 0);
        hill.come(1, 1, false);
        Check.settleIn(hill, 35, 1);
        int[] row = {2, 5, 1, 0, 3, -1};
        for (int i = 0; i < row.length; i++) {
            CHECK.due("row(" + i + ")", hill.row(i), row[i]);
        }
    }

    private static void rowWithOneMore() {
        CHECK.sentence("with one that lives nowhere it stands behind all with its KEY or less");
        int[] comers = {0, 19, 20, 29, 30, 39, 40, 49, 50, 99};
        int[] places = {0, 0, 1, 1, 3, 3, 4, 4, 4, 4};
        for (int i = 0; i < comers.length; i++) {
            AgeHill hill = CHECK.hill(Check.houses(5) + "step 10;");
            Check.settleIn(hill, 35, 2);
            Check.settleIn(hill, 25, 0);
            Check.settleIn(hill, 30, 4);
            Check.settleIn(hill, 40, 3);
            int comer = hill.come(comers[i], comers[i], false);
            CHECK.due("who comes of " + comers[i], hill.leastAt(comer, comer), places[i]);
            CHECK.due("who has KEY 2", hill.leastAt(comer, 1), places[i] == 0 ? 1 : 0);
            CHECK.due("who has KEY 4", hill.leastAt(comer, 3), places[i] == 4 ? 3 : 4);
        }
    }

    // ---- promises 7 to 9 ----

    private static void coming() {
        comesOfAges();
        comesIfNotFull();
    }

    private static void comesOfAges() {
        CHECK.sentence("NONE, and nothing happens: 60 came, 30 FAMILIES came, no such ages.");
        int[] good = {0, 1, 98, 99};
        for (int age : good) {
            AgeHill hill = new AgeHill();
            CHECK.due("come(" + age + ", 50)", hill.come(age, 50, true), 0);
            CHECK.due("come(50, " + age + ")", hill.come(50, age, false), 1);
            CHECK.due("TRUE age", hill.person(0, 0), age);
            CHECK.due("told age", hill.person(0, 1), 50);
            CHECK.due("TRUE age", hill.person(1, 0), 50);
            CHECK.due("told age", hill.person(1, 1), age);
        }
        for (int age : new int[] {-1, 100, MIN, MAX}) {
            CHECK.refused("come(" + age + ", 50)", hill -> hill.come(age, 50, false), -1);
            CHECK.refused("come(50, " + age + ")", hill -> hill.come(50, age, true), -1);
            CHECK.refused("come of none", AgeHill::new, hill -> hill.come(age, age, false), -1);
        }
    }

    private static void comesIfNotFull() {
        CHECK.sentence("30 FAMILIES came");
        CHECK.refused("a 31st", EdgesOfPeople::thirtyCame, hill -> hill.come(50, 50, false), -1);
        AgeHill hill = thirtyCame();
        for (int i = 0; i < 30; i++) {
            CHECK.due("die", hill.die(i), true);
        }
        CHECK.due("those that came count, not those that are", hill.come(50, 50, false), -1);
        CHECK.due("none is", hill.count(1), 0);
        AgeHill joined = thirtyCame();
        joined.join(1, 0);
        CHECK.due("families that are", joined.count(2), 29);
        CHECK.due("those that came count", joined.come(50, 50, false), -1);
    }

    private static void joining() {
        CHECK.sentence("JOINS a FAMILY: true; false, and nothing happens: no such ones (that are), six are in it, it is his own.");
        int[][] no = {{-1, 0}, {6, 0}, {MIN, 0}, {MAX, 0}, {2, 0}, {0, -1}, {0, 6}, {0, MIN}, {0, MAX}, {0, 2}, {0, 5}, {0, 0},
            {5, 0}, {1, 1}, {4, 4}, {-1, -1}};
        for (int[] it : no) {
            CHECK.refused("join(" + it[0] + ", " + it[1] + ")", hill -> one(hill.join(it[0], it[1])), 0);
        }
        CHECK.refused("a seventh", () -> familyOf(6), hill -> one(hill.join(6, 0)), 0);
        CHECK.refused("one of six to his own", () -> familyOf(6), hill -> one(hill.join(5, 0)), 0);
        CHECK.refused("nobody came", AgeHill::new, hill -> one(hill.join(0, 0)), 0);
        AgeHill hill = CHECK.busyHill();
        CHECK.due("the first one to the last one", hill.join(0, 4), true);
        CHECK.due("he is there", hill.person(0, 3), 4);
        CHECK.due("the last one to the first one", hill.join(5, 4), true);
        CHECK.due("three are there", hill.family(4, 0), 3);
        CHECK.due("first family is no more", hill.family(0, 0), -1);
    }

    private static void dying() {
        CHECK.sentence("DIES: true; false: no such one that is.");
        for (int p : new int[] {-1, 2, 6, 30, 60, MIN, MAX}) {
            CHECK.refused("die(" + p + ")", hill -> one(hill.die(p)), 0);
        }
        CHECK.refused("nobody came", AgeHill::new, hill -> one(hill.die(0)), 0);
        AgeHill hill = CHECK.busyHill();
        for (int p : new int[] {0, 5}) {
            CHECK.due("die(" + p + ")", hill.die(p), true);
            CHECK.due("die(" + p + ") again", hill.die(p), false);
        }
        CHECK.due("PEOPLE that are", hill.count(1), 3);
        AgeHill all = thirtyCame();
        CHECK.due("the last of thirty", all.die(29), true);
        CHECK.due("no 31st", all.die(30), false);
    }

    // ---- promises 10 and 11 ----

    private static void asking() {
        personAsked();
        familyAsked();
        twosAhead();
    }

    private static void personAsked() {
        CHECK.sentence("Of a PERSON that is: what 0 TRUE age, 1 told age, 2: 1 lame, else 0, 3 the FAMILY. NONE for others.");
        AgeHill hill = CHECK.busyHill();
        int[][] due = {{63, 41, 1, 0}, {31, 34, 0, 1}, {-1, -1, -1, -1}, {76, 76, 1, 3}, {51, 49, 0, 4}, {10, 10, 0, 0}};
        for (int p = 0; p < 6; p++) {
            for (int what = 0; what < 4; what++) {
                CHECK.due("person(" + p + ", " + what + ")", hill.person(p, what), due[p][what]);
            }
            for (int what : new int[] {-1, 4, MIN, MAX}) {
                CHECK.due("person(" + p + ", " + what + ")", hill.person(p, what), -1);
            }
        }
        for (int p : new int[] {-1, 6, 30, 60, MIN, MAX}) {
            CHECK.due("person(" + p + ", 0)", hill.person(p, 0), -1);
            CHECK.due("person(" + p + ", 3)", hill.person(p, 3), -1);
        }
        CHECK.due("nobody came", new AgeHill().person(0, 0), -1);
    }

    private static void familyAsked() {
        CHECK.sentence("Of a FAMILY that is: what 0 how many there are, 1 AGE, 2 KEY, 3 the HOUSE (-2: nowhere), "
            + "4 the HOUSE that it LOVES (-2: none), 5 how many are lame. NONE for others.");
        AgeHill hill = CHECK.busyHill();
        int no = -1;
        int[][] due = {{2, 25, 5, 2, 0, 1}, {1, 34, 6, 1, 2, 0}, {no, no, no, no, no, no}, {1, 76, 15, 0, -2, 1},
            {1, 49, 9, -2, -2, 0}, {no, no, no, no, no, no}};
        for (int f = 0; f < 6; f++) {
            for (int what = 0; what < 6; what++) {
                CHECK.due("family(" + f + ", " + what + ")", hill.family(f, what), due[f][what]);
            }
            for (int what : new int[] {-1, 6, MIN, MAX}) {
                CHECK.due("family(" + f + ", " + what + ")", hill.family(f, what), -1);
            }
        }
        for (int f : new int[] {-1, 6, 30, MIN, MAX}) {
            CHECK.due("family(" + f + ", 0)", hill.family(f, 0), -1);
            CHECK.due("family(" + f + ", 3)", hill.family(f, 3), -1);
        }
        CHECK.due("nobody came", new AgeHill().family(0, 0), -1);
    }

    private static void twosAhead() {
        CHECK.sentence("(NONE is looked at ahead of -2, everywhere.)");
        AgeHill hill = CHECK.busyHill();
        CHECK.due("an empty HOUSE", hill.house(4, 2), -2);
        CHECK.due("no such what of an empty HOUSE", hill.house(4, 3), -1);
        CHECK.due("no such HOUSE", hill.house(5, 2), -1);
        CHECK.due("a FAMILY nowhere", hill.family(4, 3), -2);
        CHECK.due("no such what of a FAMILY nowhere", hill.family(4, 6), -1);
        CHECK.due("a FAMILY that is no more lives nowhere", hill.family(2, 3), -1);
        CHECK.due("a FAMILY that is no more loves none", hill.family(2, 4), -1);
    }

    // ---- promises 12 to 14 ----

    private static void living() {
        CHECK.sentence("A FAMILY comes to live in a HOUSE (NONE: nowhere): true; false, and nothing happens: no such ones, "
            + "it is not empty (its own, too).");
        int[][] no = {{-1, 3}, {6, 3}, {MIN, 3}, {MAX, 3}, {2, 3}, {5, 3}, {-1, -1}, {6, -1}, {2, -1}, {5, -1},
            {4, -2}, {4, 5}, {4, 24}, {4, MIN}, {4, MAX}, {1, -2}, {1, 5}, {4, 0}, {4, 1}, {4, 2}, {0, 2}, {1, 1}, {3, 0}, {0, 1}};
        for (int[] it : no) {
            CHECK.refused("live(" + it[0] + ", " + it[1] + ")", hill -> one(hill.live(it[0], it[1])), 0);
        }
        CHECK.refused("no HOUSE at all", () -> familyIn(""), hill -> one(hill.live(0, 0)), 0);
        CHECK.refused("nobody came", () -> CHECK.hill(Check.houses(1)), hill -> one(hill.live(0, 0)), 0);
        AgeHill hill = CHECK.busyHill();
        CHECK.due("the first to the last HOUSE", hill.live(0, 4), true);
        CHECK.due("the last FAMILY to the one it left", hill.live(4, 2), true);
        CHECK.due("nowhere", hill.live(3, -1), true);
        CHECK.due("nowhere again", hill.live(3, -1), true);
        CHECK.due("to HOUSE 0", hill.live(1, 0), true);
        int[] in = {1, -2, 4, -2, 0};
        for (int h = 0; h < in.length; h++) {
            CHECK.due("house(" + h + ", 2)", hill.house(h, 2), in[h]);
        }
        fullOfHouses();
    }

    private static AgeHill familyIn(String text) {
        AgeHill hill = CHECK.hill(text);
        hill.come(1, 1, false);
        return hill;
    }

    private static AgeHill fullHill() {
        AgeHill hill = CHECK.hill(Check.houses(24));
        for (int h = 0; h < 24; h++) {
            Check.settleIn(hill, 90 - h, h);
        }
        hill.come(5, 5, false);
        return hill;
    }

    private static void fullOfHouses() {
        AgeHill hill = fullHill();
        CHECK.due("24 live", hill.count(3), 24);
        for (int h = 0; h < 24; h++) {
            CHECK.due("a full hill's " + h, hill.live(24, h), false);
        }
        CHECK.due("lives nowhere", hill.family(24, 3), -2);
        hill.live(23, -1);
        CHECK.due("the last HOUSE", hill.live(24, 23), true);
        CHECK.due("no 25th", hill.live(23, 24), false);
    }

    private static void loving() {
        CHECK.sentence("It LOVES a HOUSE (NONE: none): true; false: no such ones.");
        int[][] no = {{-1, 0}, {6, 0}, {2, 0}, {5, 0}, {MIN, 0}, {MAX, 0}, {-1, -1}, {2, -1}, {0, -2}, {0, 5}, {0, 24}, {0, MIN}, {0, MAX}};
        for (int[] it : no) {
            CHECK.refused("love(" + it[0] + ", " + it[1] + ")", hill -> one(hill.love(it[0], it[1])), 0);
        }
        CHECK.refused("no HOUSE at all", () -> familyIn(""), hill -> one(hill.love(0, 0)), 0);
        CHECK.due("none of no HOUSES", familyIn("").love(0, -1), true);
        AgeHill hill = CHECK.busyHill();
        for (int h : new int[] {0, 4, -1}) {
            CHECK.due("love(4, " + h + ")", hill.love(4, h), true);
            CHECK.due("it does", hill.family(4, 4), h == -1 ? -2 : h);
        }
        CHECK.due("one that lives there", hill.love(0, 2), true);
        CHECK.due("it does", hill.family(0, 4), 2);
    }

    private static AgeHill inMonth(int month) {
        AgeHill hill = CHECK.busyHill();
        for (int left = month - 14; left > 0; left -= 240) {
            hill.months(Math.min(left, 240));
        }
        return hill;
    }

    private static void months() {
        CHECK.sentence("n MONTHS (0 .. 240) go by: MONTH; NONE: no such n, above 1200.");
        CHECK.due("months(0)", inMonth(14).months(0), 14);
        CHECK.due("months(1)", inMonth(14).months(1), 15);
        CHECK.due("months(240)", inMonth(14).months(240), 254);
        for (int n : new int[] {-1, 241, MIN, MAX}) {
            CHECK.refused("months(" + n + ")", hill -> hill.months(n), -1);
        }
        CHECK.due("240 to 1200", inMonth(960).months(240), 1200);
        CHECK.refused("240 to 1201", () -> inMonth(961), hill -> hill.months(240), -1);
        CHECK.due("1 to 1200", inMonth(1199).months(1), 1200);
        CHECK.refused("2 to 1201", () -> inMonth(1199), hill -> hill.months(2), -1);
        CHECK.due("0 in 1200", inMonth(1200).months(0), 1200);
        CHECK.refused("1 to 1201", () -> inMonth(1200), hill -> hill.months(1), -1);
        CHECK.due("MONTH", inMonth(1200).count(4), 1200);
    }

    // ---- promises 15 to 17 ----

    private static void lawAsked() {
        unlawfulAsked();
        pairsAsked();
        rowAsked();
        askedOnly();
    }

    private static void unlawfulAsked() {
        CHECK.sentence("How many two HOUSES are UNLAWFUL (what 0), LIES (1), OTHERWISE (2). NONE for others.");
        AgeHill full = fullHill();
        for (int what = 0; what < 3; what++) {
            CHECK.due("of a full hill, unlawful(" + what + ")", full.unlawful(what), 276);
            CHECK.due("of an empty hill, unlawful(" + what + ")", CHECK.hill(Check.houses(24)).unlawful(what), 0);
            CHECK.due("of no hill, unlawful(" + what + ")", new AgeHill().unlawful(what), 0);
        }
        for (int what : new int[] {-1, 3, MIN, MAX}) {
            CHECK.due("unlawful(" + what + ")", full.unlawful(what), -1);
        }
    }

    private static void pairsAsked() {
        CHECK.sentence("The i-th two that are UNLAWFUL: 100 * the lower HOUSE + the higher one, by these numbers; NONE: not so many.");
        AgeHill full = fullHill();
        int i = 0;
        for (int low = 0; low < 24; low++) {
            for (int high = low + 1; high < 24; high++) {
                CHECK.due("pair(" + i + ")", full.pair(i), 100 * low + high);
                i++;
            }
        }
        for (int none : new int[] {276, 277, -1, MIN, MAX}) {
            CHECK.due("pair(" + none + ")", full.pair(none), -1);
        }
        CHECK.due("of none", CHECK.hill(Check.houses(24)).pair(0), -1);
        CHECK.due("of none", new AgeHill().pair(0), -1);
        AgeHill one = pairOf("", 51, 50);
        CHECK.due("pair(0) of one", one.pair(0), 102);
        CHECK.due("pair(1) of one", one.pair(1), -1);
    }

    private static void rowAsked() {
        CHECK.sentence("The i-th FAMILY of the ROW of those that live; NONE: not so many.");
        AgeHill full = fullHill();
        for (int i = 0; i < 24; i++) {
            CHECK.due("row(" + i + ")", full.row(i), 23 - i);
        }
        for (int none : new int[] {24, 25, -1, MIN, MAX}) {
            CHECK.due("row(" + none + ")", full.row(none), -1);
        }
        CHECK.due("of an empty hill", thirtyCame().row(0), -1);
        CHECK.due("of no hill", new AgeHill().row(0), -1);
        AgeHill tops = CHECK.hill("house a left 1;house b right 1;");
        Check.settleIn(tops, 50, 0);
        Check.settleIn(tops, 40, 1);
        CHECK.due("of both tops, row(0)", tops.row(0), 1);
        CHECK.due("of both tops, row(1)", tops.row(1), 0);
    }

    private static void askedOnly() {
        CHECK.sentence("Nothing is promised beyond the answers and state changes described above");
        CHECK.onlyAsks("house", hill -> hill.house(2, 2));
        CHECK.onlyAsks("person", hill -> hill.person(0, 0));
        CHECK.onlyAsks("family", hill -> hill.family(0, 1));
        CHECK.onlyAsks("unlawful(1)", hill -> hill.unlawful(1));
        CHECK.onlyAsks("unlawful(2)", hill -> hill.unlawful(2));
        CHECK.onlyAsks("pair", hill -> hill.pair(0));
        CHECK.onlyAsks("row", hill -> hill.row(0));
        CHECK.onlyAsks("place", AgeHill::place);
        CHECK.onlyAsks("count", hill -> hill.count(1));
        CHECK.onlyAsks("back(0)", hill -> hill.back(0));
        CHECK.onlyAsks("months(0)", hill -> hill.months(0));
    }
}
