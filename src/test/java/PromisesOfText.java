/** Promises 1 to 6: a new object, the tape, reading, houses; what formulas and conditions say. */
public final class PromisesOfText {
    private static final Check CHECK = new Check("PromisesOfText");

    public static void main(String[] args) {
        newObject();
        tape();
        goodTexts();
        syntax();
        room();
        late();
        faultChangesNothing();
        goodTextIsInPlace();
        lastOneTold();
        houses();
        numbers();
        conditions();
        largest();
        readAgain();
        bytesTakenBack();
        CHECK.end();
    }

    private static void newObject() {
        AgeHill hill = new AgeHill();
        for (int what = 0; what <= 13; what++) {
            CHECK.due("new: count(" + what + ")", hill.count(what), what == 8 ? 1 : what == 9 ? 3 : 0);
        }
        CHECK.due("count(14)", hill.count(14), -1);
        CHECK.due("count(-1)", hill.count(-1), -1);
        CHECK.due("new: place()", hill.place(), -1);
        CHECK.due("new: house(0, 0)", hill.house(0, 0), -1);
        CHECK.due("new: restore(0)", hill.restore(0), false);
        CHECK.due("new: row(0)", hill.row(0), -1);
        CHECK.due("new: person(0, 0)", hill.person(0, 0), -1);
        CHECK.due("NONE", AgeHill.NONE, -1);
    }

    private static void tape() {
        AgeHill hill = new AgeHill();
        for (int i = 1; i <= 100; i++) {
            CHECK.due("feed " + i, hill.feed(i, 0, -1, i, i), 20 * i);
        }
        CHECK.due("feed beyond 2000", hill.feed(0, 0, 0, 0, 0), -1);
        CHECK.due("count(6)", hill.count(6), 2000);
        CHECK.due("back(2001)", hill.back(2001), -1);
        CHECK.due("back(-1)", hill.back(-1), -1);
        CHECK.due("back(MIN)", hill.back(Integer.MIN_VALUE), -1);
        CHECK.due("back(MAX)", hill.back(Integer.MAX_VALUE), -1);
        CHECK.due("back(0)", hill.back(0), 2000);
        CHECK.due("back(19)", hill.back(19), 1981);
        CHECK.due("feed at 1981", hill.feed(0, 0, 0, 0, 0), -1);
        CHECK.due("back(1)", hill.back(1), 1980);
        CHECK.due("feed at 1980", hill.feed(0, 0, 0, 0, 0), 2000);
        CHECK.due("read of zeros and more", hill.read(), 1);
        CHECK.due("its place", hill.place(), 0);
        CHECK.due("tape is empty", hill.count(6), 0);
        CHECK.due("back(1) of nothing", hill.back(1), -1);
        CHECK.due("back(0) of nothing", hill.back(0), 0);
        // "step" " 7; " and blanks: the highest byte of the first int comes first.
        CHECK.due("feed step 7", hill.feed(0x73746570, 0x20373b20, 0x20202020, 0x0a0d0920, 0x20202020), 20);
        CHECK.due("read step 7", hill.read(), 0);
        CHECK.due("STEP", hill.count(8), 7);
        CHECK.due("place without a fault", hill.place(), -1);
    }

    private static void good(String text) {
        AgeHill hill = new AgeHill();
        CHECK.due("read of " + text, CHECK.read(hill, text), 0);
        CHECK.due("place of " + text, hill.place(), -1);
    }

    private static void fault(String text, int number, int place) {
        AgeHill hill = new AgeHill();
        CHECK.due("read of " + text, CHECK.read(hill, text), number);
        CHECK.due("place of " + text, hill.place(), place);
        CHECK.due("tape after " + text, hill.count(6), 0);
    }

    private static void goodTexts() {
        good("");
        good("  \t\r\n ");
        good("house abcdefgh 0;");
        good("house a1;house b left2;house cright 99;");
        good("house a left 5;house b right 6;house lefty 7;");
        good("house z 1;house zz 2;house az 3;house za 4;");
        good("step 1;step 20;lane 1;lane 9;by eldest;by mean;step 0007;");
        good("cost=1;worth=good;comes=age;dies=lame;");
        good("cost=age+size-lame*month/from+to-far*gap/loved+good;");
        good("cost=((((((1))))));");
        good("cost=(1)*(1)*(1)*(1)*(1)*(1)*(1)*(1);");
        good("forgive if 1<2;forgive if not not not 1<=2 and 1==1 or 2!=3;");
        good("forgive if(age+1)*2<gap;");
        good("cost=9999;");
        good(Check.houses(24));
        good("forgive if 1<2;".repeat(6));
        good("cost=1;".repeat(100));
        good("cost=1;".repeat(100) + " \n");
        good("forgive if " + "not ".repeat(394) + "1<2;");
    }

    private static void syntax() {
        fault("house", 1, 5);
        fault("house  ", 1, 7);
        fault("house a 1", 1, 9);
        fault("house a 1\n", 1, 10);
        fault("a", 1, 0);
        fault(";", 1, 0);
        fault("house a 1;;", 1, 10);
        fault("house abcdefghi 1;", 1, 6);
        fault("house a 12345;", 1, 8);
        fault("house a 00001;", 1, 8);
        fault("housea 1;", 1, 0);
        fault("house age 1;", 1, 6);
        fault("house left 1;", 1, 6);
        fault("house a left right 1;", 1, 13);
        fault("house a mean 1;", 1, 8);
        fault("house a b 1;", 1, 8);
        fault("house A 1;", 1, 6);
        fault("house a_b 1;", 1, 7);
        fault("house a -1;", 1, 8);
        fault("step;", 1, 4);
        fault("step a;", 1, 5);
        fault("lane 1 2;", 1, 7);
        fault("by 1;", 1, 3);
        fault("by lame;", 1, 3);
        fault("by mean", 1, 7);
        fault("cost 1;", 1, 5);
        fault("cost==1;", 1, 4);
        fault("cost= =1;", 1, 6);
        fault("cost=;", 1, 5);
        fault("cost=a;", 1, 5);
        fault("cost=-1;", 1, 5);
        fault("cost=1+;", 1, 7);
        fault("cost=1 2;", 1, 7);
        fault("cost=(1;", 1, 7);
        fault("cost=1);", 1, 6);
        fault("cost=();", 1, 6);
        fault("cost=1<2;", 1, 6);
        fault("cost=1.5;", 1, 6);
        fault("forgive 1<2;", 1, 8);
        fault("forgive if;", 1, 10);
        fault("forgive if 1;", 1, 12);
        fault("forgive if 1=2;", 1, 12);
        fault("forgive if 1>2;", 1, 12);
        fault("forgive if 1!2;", 1, 12);
        fault("forgive if 1<>2;", 1, 13);
        fault("forgive if 1<2<3;", 1, 14);
        fault("forgive if 1<==2;", 1, 14);
        fault("forgive if (1<2);", 1, 13);
        fault("forgive if not (1<2);", 1, 17);
        fault("forgive if 1<2 and;", 1, 18);
        fault("forgive if 1<2 or or 1<2;", 1, 18);
        fault("forgive if 1<2 and not;", 1, 22);
        fault("forgive if 1 not <2;", 1, 13);
        fault("house house a 1;;", 1, 6);
        fault("house a house a 1;;", 1, 8);
        fault("step step 1;;", 1, 5);
        fault("by by mean;;", 1, 3);
        fault("cost cost=1;;", 1, 5);
        fault("forgive forgive if 1<2;;", 1, 8);
        fault("forgive if 1<2 step 1;;", 1, 15);
        fault("forgive if 1 step 1;;", 1, 13);
        fault("step 5;" + (char) 233, 1, 7);
        fault("step 5;" + (char) 0, 1, 7);
        fault("step" + (char) 11 + "5;", 1, 4);
    }

    private static void room() {
        String full = "cost=1;".repeat(100);
        fault(full + "by mean;", 2, 700);
        fault(full + " by mean;", 2, 701);
        fault(full + "house a 100;", 2, 700);
        fault(full + ";", 1, 700);
        fault(full + "%", 1, 700);
        fault(full + "abcdefghi", 1, 700);
        String nearly = "cost=1;".repeat(98) + "step 1;step 1;by mean";
        fault(nearly + ";", 2, nearly.length());
        fault(nearly, 1, nearly.length());
        fault(nearly + " ", 1, nearly.length() + 1);
        fault(nearly + "mean;", 1, 0 + nearly.length() - 4);
        fault(nearly + " step;", 1, nearly.length() + 1);
        fault("forgive if " + "not ".repeat(395) + "1<2;", 2, 11 + 4 * 395 + 3);
        fault("forgive if " + "not ".repeat(398) + "not 1<2;", 2, 11 + 4 * 398);
        fault("forgive if " + "not ".repeat(398) + "and 1<2;", 1, 11 + 4 * 398);
        String houses = Check.houses(24);
        fault(houses + "house y 1;", 2, houses.length());
        fault(houses + " house", 2, houses.length() + 1);
        fault(houses + "house y 100;", 2, houses.length());
        fault(houses + "house a 1;", 2, houses.length());
        fault(houses + "step;", 1, houses.length() + 4);
        String rules = "forgive if 1<2;".repeat(6);
        fault(rules + "forgive if 1<2;", 2, 90);
        fault(rules + "forgive", 2, 90);
        fault("cost=(((((((1)))))));", 2, 11);
        fault("cost=1+((((((2*(1))))))));", 2, 15);
        fault("forgive if ((((((age<1;", 1, 20);
        fault("forgive if (((((((age<1;", 2, 17);
        fault("cost=((((((1(;", 1, 12);
        fault("step 0;lane 0;" + rules + "forgive if 1<2;", 2, 104);
    }

    private static void late() {
        fault("house a 100;", 5, 8);
        fault("house a left 9999;", 5, 13);
        fault("step 0;", 5, 5);
        fault("step 21;", 5, 5);
        fault("step 0;step 5;", 5, 5);
        fault("lane 0;", 5, 5);
        fault("lane 10;", 5, 5);
        fault("house a 1;house b 2;house a 3;", 3, 26);
        fault("house a 1;house ab 2;house b 3;house ab right 3;", 3, 37);
        fault("house a1;house a\t1;", 3, 15);
        fault("house a left 1;house a1;", 3, 21);
        fault("house a 100;house a 1;", 5, 8);
        fault("house a 1;house a 100;", 3, 16);
        fault("house a 1;house a 2;house a 3;", 3, 16);
        fault("house a 100;step", 1, 16);
        fault("house a 1;house a 1;step 1;;", 1, 27);
        fault("house a 1;lane 0;house a 1;", 5, 15);
    }

    private static void faultChangesNothing() {
        AgeHill hill = CHECK.hill("house a 5;house b 6;step 3;lane 2;by mean;forgive if gap<2;");
        Check.settleIn(hill, 30, 0);
        hill.months(5);
        hill.move(1, 0, 1);
        hill.hold(1);
        CHECK.due("faulty read", CHECK.read(hill, "house x 5;step 4;lane 8;by eldest;forgive"), 1);
        CHECK.due("place", hill.place(), 41);
        int[] counts = {2, 1, 1, 1, 5, 1, 0, 1, 3, 2, 1, 1, 1, 1};
        for (int what = 0; what < counts.length; what++) {
            CHECK.due("after a fault: count(" + what + ")", hill.count(what), counts[what]);
        }
        CHECK.due("restore(1)", hill.restore(1), true);
        CHECK.due("place of the latest read", hill.place(), 41);
    }

    private static void goodTextIsInPlace() {
        AgeHill hill = CHECK.hill("house a 5;house b 6;step 3;lane 2;by mean;forgive if gap<2;cost=7;dies=5;");
        Check.settleIn(hill, 30, 0);
        hill.months(5);
        hill.move(1, 0, 1);
        hill.hold(0);
        hill.hold(1);
        CHECK.due("slots", hill.count(7), 2);
        CHECK.due("read()", CHECK.read(hill, "house c right 9;"), 0);
        int[] counts = {1, 0, 0, 0, 0, 0, 0, 0, 1, 3, 0, 0, 0, 0};
        for (int what = 0; what < counts.length; what++) {
            CHECK.due("after a text: count(" + what + ")", hill.count(what), counts[what]);
        }
        CHECK.due("restore(0)", hill.restore(0), false);
        CHECK.due("restore(1)", hill.restore(1), false);
        CHECK.due("house(0, 2)", hill.house(0, 2), -2);
        CHECK.due("come", hill.come(1, 1, false), 0);
        CHECK.due("its cost is 1 again", hill.least(0, 1), 1);
        CHECK.due("it loves none", hill.family(0, 4), -2);
    }

    private static void lastOneTold() {
        AgeHill hill = CHECK.hill("house a 5;step 3;step 4;lane 2;lane 5;by mean;by eldest;cost=7;cost=8;worth=1;worth=2;");
        CHECK.due("STEP", hill.count(8), 4);
        CHECK.due("LANE", hill.count(9), 5);
        CHECK.due("BY", hill.count(11), 0);
        hill.come(30, 30, false);
        CHECK.due("COST", hill.least(0, 1), 8);
        CHECK.due("WORTH", hill.worth(0, 0), 2);
    }

    private static void houses() {
        AgeHill hill = CHECK.hill("house low 3;house l left 99;house r right 0;");
        int[][] due = {{0, 3, -2}, {1, 99, 0}, {2, 0, -2}};
        Check.settleIn(hill, 20, 1);
        for (int h = 0; h < 3; h++) {
            for (int what = 0; what < 3; what++) {
                CHECK.due("house(" + h + ", " + what + ")", hill.house(h, what), due[h][what]);
            }
        }
        CHECK.due("house(3, 0)", hill.house(3, 0), -1);
        CHECK.due("house(-1, 0)", hill.house(-1, 0), -1);
        CHECK.due("house(0, 3)", hill.house(0, 3), -1);
        CHECK.due("house(0, -1)", hill.house(0, -1), -1);
    }

    /** WORTH for a lame one of 40 and a house with GOOD 7 that it does not love. */
    private static void number(String formula, int due) {
        AgeHill hill = CHECK.hill("house a 1;house b 7;worth=" + formula + ";");
        hill.come(50, 40, true);
        hill.months(15);
        CHECK.due("worth=" + formula, hill.worth(0, 1), due);
    }

    private static void numbers() {
        number("1+2*3", 7);
        number("(1+2)*3", 9);
        number("10-3-2", 5);
        number("10-(3-2)", 9);
        number("100/7/2", 7);
        number("7/2*2", 6);
        number("2*7/2", 7);
        number("1+2*3-8/4*2+5", 8);
        number("((2))*(3+(4-1)*2)", 18);
        number("0-5", 0);
        number("5-7+10", 8);
        number("(0-7)/2+10", 7);
        number("999", 999);
        number("1000", 999);
        number("9999*9999", 999);
        // 9999 to the third wraps to -1027349969.
        number("9999*9999*9999", 0);
        number("(0-9999*9999*9999)/9999/9999", 10);
        // 8192 * 8192 * 32 wraps to the least int, which by -1 stays the least.
        number("8192*8192*32/(0-1)", 0);
        number("8192*8192*32-1", 999);
        number("1/0", 0);
        number("5+1/0", 0);
        number("5+0*(1/0)", 0);
        number("5+(1/(size-1))*0", 0);
        number("0/0+9", 0);
        number("age", 41);
        number("size+lame*10+month*100", 311);
        number("to+loved*50", 1);
        number("good", 7);
        number("from+far+gap+3", 3);
    }

    private static void largest() {
        // 400 tokens, of which 397 are one formula: 203 less 198 ways, where nobody can be put.
        AgeHill hill = CHECK.hill("comes=203" + "-1".repeat(198) + ";");
        CHECK.due("a longest formula", hill.mean(), 24 * 100 * 5);
        AgeHill worth = CHECK.hill("house a 1;worth=1" + "+1".repeat(196) + ";");
        worth.come(1, 1, false);
        CHECK.due("a long formula", worth.worth(0, 0), 197);
        number("1+2*(1+2*(1+2*(1+2*(1+2*(1+2*(1))))))", 127);
        condition("1<0 or 1<2 and 5<1 or 1<2 and 1+2*(1+2*(1+2*(1+2*(1+2*(1+2*(1))))))==1+2*(1+2*(1+2*(1+2*(1+2*(1+2))))*1)", true);
    }

    private static void readAgain() {
        AgeHill hill = new AgeHill();
        for (int i = 1; i <= 5; i++) {
            String text = "house a 1;cost=" + "1+".repeat(60) + i + ";worth=" + i + "+" + "1+".repeat(60) + "0;forgive if 1<2;";
            CHECK.due("text " + i, CHECK.read(hill, text), 0);
            hill.come(1, 1, false);
            CHECK.due("cost of text " + i, hill.least(0, 1), 60 + i);
            CHECK.due("worth of text " + i, hill.worth(0, 0), 60 + i);
            CHECK.due("a fault between", CHECK.read(hill, "cost=9;worth=8;dies=7+"), 1);
            CHECK.due("cost of text " + i, hill.least(0, 1), 60 + i);
        }
        CHECK.due("default again", CHECK.read(hill, "house a 5;"), 0);
        hill.come(1, 1, false);
        CHECK.due("cost 1", hill.least(0, 1), 1);
        CHECK.due("worth good", hill.worth(0, 0), 5);
    }

    /** What was taken back is no part of the text, though it was on the tape. */
    private static void bytesTakenBack() {
        AgeHill hill = new AgeHill();
        // "cost==1;" and blanks; all behind the first '=' goes.
        hill.feed(0x636f7374, 0x3d3d313b, 0x20202020, 0x20202020, 0x20202020);
        CHECK.due("back", hill.back(15), 5);
        CHECK.due("read cost=", hill.read(), 1);
        CHECK.due("at its end", hill.place(), 5);
        // "step 12;": the 2 and the sign go, then a sign comes with blanks.
        hill.feed(0x73746570, 0x2031323b, 0x20202020, 0x20202020, 0x20202020);
        CHECK.due("back", hill.back(14), 6);
        CHECK.due("feed", hill.feed(0x3b202020, 0x20202020, 0x20202020, 0x20202020, 0x20202020), 26);
        CHECK.due("read step 1;", hill.read(), 0);
        CHECK.due("STEP", hill.count(8), 1);
    }

    /** Whether it is forgiven that one of 70, one of two, both lame, lives below one of 30. */
    private static void condition(String cond, boolean due) {
        AgeHill hill = CHECK.hill("house a 1;house b 2;step 4;forgive if " + cond + ";");
        hill.come(70, 70, true);
        hill.come(20, 20, true);
        hill.come(30, 30, false);
        hill.join(1, 0);
        hill.live(0, 0);
        hill.live(2, 1);
        hill.months(11);
        CHECK.due("forgive if " + cond, hill.unlawful(0), due ? 0 : 1);
    }

    private static void conditions() {
        condition("1<2", true);
        condition("2<2", false);
        condition("2<=2", true);
        condition("3<=2", false);
        condition("0-1<0", true);
        condition("2==2", true);
        condition("2!=2", false);
        condition("1!=2", true);
        condition("not 1<2", false);
        condition("not not 1<2", true);
        condition("not 2<1 and 1<2", true);
        condition("1<2 and 2<1 or 1<2", true);
        condition("1<2 or 2<1 and 2<1", true);
        condition("2<1 and 1<2 or 2<1", false);
        condition("2<1 or 1<2 and 2<1", false);
        condition("1<2 and 1<2 and 2<1 or 2<1 or 1<2 and 1<2", true);
        condition("not 1<2 or 1<2", true);
        condition("1/0==0", false);
        condition("1/0!=0", false);
        condition("not 1/0==0", true);
        condition("not not 1/0==0", false);
        condition("1==1/0", false);
        condition("1/0==0 or 1==1", true);
        condition("1==1 and not 0/0==0", true);
        condition("1==1 or 1/0==0", true);
        condition("age==70 and size==2 and lame==2 and month==11", true);
        // Keys 17 and 7.
        condition("gap==10", true);
        condition("from==0 and to==0 and far==0 and loved==0 and good==0", true);
        condition("gap==9", false);
    }
}
