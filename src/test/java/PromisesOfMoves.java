/** Promises 26 to 33: moves told and judged, what houses are worth, changing, waiting, marrying. */
public final class PromisesOfMoves {
    private static final Check CHECK = new Check("PromisesOfMoves");

    public static void main(String[] args) {
        telling();
        judging();
        mornings();
        doing();
        worths();
        changes();
        waiting();
        marrying();
        CHECK.end();
    }

    private static void telling() {
        AgeHill hill = CHECK.hill(Check.houses(2));
        CHECK.due("no family came", hill.move(0, 0, 0), -1);
        hill.come(5, 5, false);
        CHECK.due("first", hill.move(0, 0, 0), 0);
        CHECK.due("second", hill.move(99, 0, 1), 1);
        CHECK.due("morning -1", hill.move(-1, 0, 0), -1);
        CHECK.due("morning 100", hill.move(100, 0, 0), -1);
        CHECK.due("family -1", hill.move(0, -1, 0), -1);
        CHECK.due("family 1", hill.move(0, 1, 0), -1);
        CHECK.due("house -1", hill.move(0, 0, -1), -1);
        CHECK.due("house 2", hill.move(0, 0, 2), -1);
        hill.die(0);
        CHECK.due("one that came", hill.move(5, 0, 0), 2);
        for (int i = 3; i < 40; i++) {
            CHECK.due("more", hill.move(i, 0, 0), i);
        }
        CHECK.due("a 41st", hill.move(0, 0, 0), -1);
        CHECK.due("told", hill.count(5), 40);
        CHECK.due("forget", hill.forget(), 40);
        CHECK.due("forget again", hill.forget(), 0);
        CHECK.due("told", hill.count(5), 0);
        CHECK.due("none is wrong", hill.judge(), 0);
        CHECK.due("done", hill.done(), 0);
    }

    /** In houses 0, 1, 3 live 20, 30, 40; 2 and 4 are empty; a homeless one is there and one no more. */
    private static AgeHill three(String more) {
        AgeHill hill = CHECK.hill(Check.houses(5) + more);
        Check.settleIn(hill, 20, 0);
        Check.settleIn(hill, 30, 1);
        Check.settleIn(hill, 40, 3);
        hill.come(50, 50, false);
        hill.come(60, 60, false);
        hill.die(4);
        return hill;
    }

    private static void judge(int due, String more, int[]... moves) {
        AgeHill hill = three(more);
        for (int i = 0; i < moves.length; i++) {
            CHECK.due("move", hill.move(moves[i][0], moves[i][1], moves[i][2]), i);
        }
        CHECK.due("judge " + java.util.Arrays.deepToString(moves), hill.judge(), due);
        int[] homes = {0, 1, 3, -2};
        for (int f = 0; f < homes.length; f++) {
            CHECK.due("nobody moves", hill.family(f, 3), homes[f]);
        }
        CHECK.due("still told", hill.count(5), moves.length);
        CHECK.due("done", hill.done() == -2, due != 0);
        CHECK.due("told", hill.count(5), due == 0 ? 0 : moves.length);
    }

    private static void judging() {
        judge(0, "", new int[] {0, 2, 4});
        judge(1, "", new int[] {0, 3, 4});
        judge(1, "", new int[] {0, 4, 4});
        judge(3, "", new int[] {0, 0, 1});
        judge(3, "", new int[] {0, 0, 0});
        judge(4, "", new int[] {0, 0, 2});
        judge(0, "forgive if gap<0;forgive if gap<99;", new int[] {0, 0, 2});
        judge(12, "lane 1;", new int[] {3, 2, 4}, new int[] {3, 1, 2});
        judge(0, "lane 1;", new int[] {3, 2, 4}, new int[] {4, 1, 2});
        judge(0, "lane 2;", new int[] {3, 2, 4}, new int[] {3, 1, 2});
        // The least reason of one move: no more, though the cart is taken and the house is not empty.
        judge(11, "lane 1;", new int[] {3, 2, 4}, new int[] {3, 4, 0});
        judge(12, "lane 1;", new int[] {3, 2, 4}, new int[] {3, 1, 0});
    }

    private static void mornings() {
        // By mornings, not by numbers: 4 is free only when the second one told has gone.
        judge(0, "", new int[] {9, 1, 3}, new int[] {8, 2, 4});
        judge(3, "", new int[] {8, 1, 3}, new int[] {9, 2, 4});
        judge(3, "", new int[] {8, 1, 3}, new int[] {8, 2, 4});
        judge(0, "", new int[] {8, 2, 4}, new int[] {8, 1, 3});
        // Unlawful in between, but not at the end of the morning.
        judge(0, "", new int[] {1, 0, 2}, new int[] {1, 0, 0});
        judge(4, "", new int[] {1, 0, 2}, new int[] {2, 0, 0});
        // Unlawful at the end of the first morning, told with its last move.
        judge(14, "", new int[] {1, 2, 4}, new int[] {1, 0, 2}, new int[] {2, 1, 3});
        // The same, with the last move of that morning told first.
        judge(24, "", new int[] {2, 1, 3}, new int[] {1, 2, 4}, new int[] {1, 0, 2});
        // What is wrong on a later morning comes after what is wrong on an earlier one.
        judge(13, "", new int[] {5, 3, 2}, new int[] {4, 2, 1});
        AgeHill wrong = three("");
        wrong.live(0, -1);
        wrong.live(0, 4);
        CHECK.due("unlawful without moves", wrong.judge(), 0);
    }

    private static void doing() {
        AgeHill hill = three("cost=100*from+10*to+far;lane 2;");
        hill.move(7, 0, 1);
        hill.move(6, 1, 2);
        hill.move(5, 2, 4);
        hill.move(6, 1, 3);
        // 3 to 4: 300 + 40 + 1. 1 to 2: 100 + 20 + 1. 2 to 3: 200 + 30 + 1. 0 to 1: 10 + 1.
        CHECK.due("done", hill.done(), 341 + 121 + 231 + 11);
        int[] in = {-2, 0, -2, 1, 2};
        for (int h = 0; h < 5; h++) {
            CHECK.due("house(" + h + ", 2)", hill.house(h, 2), in[h]);
        }
        CHECK.due("told", hill.count(5), 0);
        CHECK.due("done again", hill.done(), 0);
        hill.move(0, 0, 3);
        CHECK.due("wrong", hill.done(), -2);
        CHECK.due("still told", hill.count(5), 1);
        CHECK.due("nobody moved", hill.house(1, 2), 0);
        AgeHill dear = three("cost=9999*9;");
        dear.move(0, 2, 4);
        dear.move(1, 2, 3);
        CHECK.due("held each", dear.done(), 2 * 9999);
    }

    private static void worths() {
        AgeHill hill = CHECK.hill("house a 10;house b 20;step 5;worth=good+loved*500+to*100+age+size+lame;");
        hill.come(30, 7, true);
        hill.come(20, 3, true);
        hill.join(1, 0);
        CHECK.due("worth of a", hill.worth(0, 0), 10 + 7 + 2 + 2);
        CHECK.due("worth of b", hill.worth(0, 1), 20 + 100 + 7 + 2 + 2);
        hill.love(0, 1);
        CHECK.due("worth of a loved one", hill.worth(0, 1), 631);
        CHECK.due("no such family", hill.worth(1, 0), -1);
        CHECK.due("no such family", hill.worth(-1, 0), -1);
        CHECK.due("no such house", hill.worth(0, 2), -1);
        CHECK.due("no such house", hill.worth(0, -1), -1);
        AgeHill plain = CHECK.hill("house a 10;");
        plain.come(1, 1, false);
        CHECK.due("good if not told", plain.worth(0, 0), 10);
    }

    private static void changes() {
        AgeHill hill = CHECK.hill(Check.houses(6) + "step 10;worth=loved*50+good;");
        Check.settleIn(hill, 35, 0);
        Check.settleIn(hill, 31, 1);
        Check.settleIn(hill, 39, 2);
        Check.settleIn(hill, 45, 3);
        CHECK.due("none is more", hill.change(0), -2);
        CHECK.due("none is more", hill.change(1), -2);
        CHECK.due("no such what", hill.change(2), -1);
        CHECK.due("no such what", hill.change(-1), -1);
        hill.love(3, 0);
        hill.love(0, 3);
        CHECK.due("of other keys", hill.change(0), -2);
        hill.love(2, 1);
        CHECK.due("one gains", hill.change(0), 50);
        CHECK.due("who", hill.change(1), 102);
        hill.love(0, 1);
        // 0 and 1, 0 and 2 (no: 2 loves 1), 1 and 2: the first by the lesser number.
        CHECK.due("alike ones", hill.change(0), 50);
        CHECK.due("the first", hill.change(1), 1);
        hill.love(1, 2);
        CHECK.due("both gain", hill.change(0), 100);
        CHECK.due("who", hill.change(1), 102);
        hill.live(2, -1);
        CHECK.due("who lives nowhere does not change", hill.change(1), 1);
        AgeHill loss = CHECK.hill(Check.houses(2) + "worth=loved*50;");
        Check.settleIn(loss, 35, 0);
        Check.settleIn(loss, 35, 1);
        loss.love(0, 1);
        loss.love(1, 1);
        CHECK.due("one gains what the other loses", loss.change(0), -2);
    }

    private static void waiting() {
        AgeHill hill = CHECK.hill(Check.houses(3) + "dies=age-30+lame*20;");
        hill.come(10, 40, false);
        hill.come(50, 33, true);
        hill.join(0, 1);
        hill.live(1, 0);
        hill.come(70, 70, false);
        CHECK.due("loves none", hill.waits(2, 1), -1);
        hill.love(2, 0);
        // The least number is he of 40: 10, then 11, then 12 of 100.
        CHECK.due("one year", hill.waits(2, 1), 10);
        CHECK.due("two years", hill.waits(2, 2), 10000 - 90 * 89);
        CHECK.due("three years", hill.waits(2, 3), 1000000 - 90 * 89 * 88);
        CHECK.due("n 0", hill.waits(2, 0), -1);
        CHECK.due("n 9", hill.waits(2, 9), -1);
        CHECK.due("no such family", hill.waits(3, 1), -1);
        CHECK.due("no such family", hill.waits(0, 1), -1);
        hill.die(0);
        // Now he of 33, who is lame: 23.
        CHECK.due("the next one", hill.waits(2, 1), 23);
        hill.months(24);
        CHECK.due("two years on", hill.waits(2, 1), 25);
        hill.love(2, 1);
        CHECK.due("nobody lives there", hill.waits(2, 1), -2);
        hill.live(2, 1);
        CHECK.due("its own", hill.waits(2, 1), -2);
        CHECK.due("n 9 ahead of -2", hill.waits(2, 9), -1);
        AgeHill sure = CHECK.hill(Check.houses(2) + "dies=999;");
        Check.settleIn(sure, 1, 0);
        Check.settleIn(sure, 1, 1);
        sure.love(0, 1);
        CHECK.due("surely", sure.waits(0, 8), 10000000000000000L);
        AgeHill never = CHECK.hill(Check.houses(2));
        Check.settleIn(never, 99, 0);
        Check.settleIn(never, 99, 1);
        never.love(0, 1);
        CHECK.due("never", never.waits(0, 8), 0);
    }

    private static void marrying() {
        AgeHill hill = CHECK.hill(Check.houses(3));
        Check.settleIn(hill, 50, 0);
        Check.settleIn(hill, 40, 1);
        Check.settleIn(hill, 45, 2);
        // 50 in 0 below 45 in 2: none can stay. 50 in 1: 45 goes to 0.
        CHECK.due("in the first one's", hill.marry(0, 1, false), 2);
        CHECK.due("in the second one's", hill.marry(0, 1, true), 1);
        CHECK.due("the other way", hill.marry(1, 0, true), 2);
        CHECK.due("the other way", hill.marry(1, 0, false), 1);
        CHECK.due("nothing happens", hill.house(1, 2), 1);
        CHECK.due("nothing happens", hill.family(0, 0), 1);
        CHECK.due("nothing happens", hill.count(3), 3);
        CHECK.due("one and the same", hill.marry(0, 0, false), -1);
        CHECK.due("no such one", hill.marry(0, 3, false), -1);
        CHECK.due("no such one", hill.marry(-1, 0, false), -1);
        hill.come(9, 9, false);
        CHECK.due("lives nowhere", hill.marry(0, 3, false), -1);
        CHECK.due("lives nowhere", hill.marry(3, 0, false), -1);
        AgeHill mean = CHECK.hill(Check.houses(3) + "by mean;");
        Check.settleIn(mean, 50, 0);
        Check.settleIn(mean, 40, 1);
        Check.settleIn(mean, 45, 2);
        CHECK.due("mean 45", mean.marry(0, 1, false), 0);
        AgeHill many = CHECK.hill(Check.houses(3));
        for (int i = 0; i < 7; i++) {
            many.come(10 + i, 10 + i, false);
        }
        many.join(2, 0);
        many.join(3, 0);
        many.join(4, 1);
        many.join(5, 1);
        many.live(0, 0);
        many.live(1, 1);
        CHECK.due("six", many.marry(0, 1, true), 0);
        many.join(6, 1);
        CHECK.due("seven", many.marry(0, 1, true), -2);
        CHECK.due("seven with himself", many.marry(1, 1, true), -1);
        AgeHill tops = CHECK.hill("house a left 1;house b right 1;");
        Check.settleIn(tops, 5, 0);
        Check.settleIn(tops, 6, 1);
        CHECK.due("two tops", tops.marry(0, 1, false), -2);
        CHECK.due("NONE ahead", tops.marry(0, 2, false), -1);
    }
}
