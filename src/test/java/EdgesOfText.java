/** The sentences of the document on tokens, faults, formulas and promises 1 to 6 that name a boundary, one by one. */
public final class EdgesOfText {
    private static final Check CHECK = new Check("EdgesOfText");
    private static final String[] WORDS = {"house", "left", "right", "step", "lane", "by", "eldest", "mean", "cost",
        "worth", "comes", "dies", "forgive", "if", "or", "and", "not", "age", "size", "lame", "month", "from", "to",
        "far", "gap", "loved", "good"};
    private static final String VARS = "age size lame month from to far gap loved good";
    private static final String FULL = "cost=1;".repeat(100);

    public static void main(String[] args) {
        tokens();
        grammar();
        toldAtFirst();
        faults();
        vars();
        promises();
        CHECK.end();
    }

    private static void reads(String text, int fault, int place) {
        AgeHill hill = new AgeHill();
        CHECK.due("read() of '" + text + "'", CHECK.read(hill, text), fault);
        CHECK.due("place() of '" + text + "'", hill.place(), place);
    }

    private static void good(String text) {
        reads(text, 0, -1);
    }

    // ---- tokens ----

    private static void tokens() {
        bytesOfText();
        blanks();
        longestTokens();
        names();
        wordsAreNoNames();
        ints();
        signs();
        allElse();
    }

    private static String blanksUpTo(int length, String from) {
        return from + " ".repeat(length - from.length());
    }

    private static void bytesOfText() {
        CHECK.sentence("A TEXT has 2,000 bytes at most.");
        AgeHill hill = CHECK.hill(blanksUpTo(1993, "step 5;") + "step 7;");
        CHECK.due("the last of 2,000 bytes counts", hill.count(8), 7);
        reads(blanksUpTo(1994, "") + "step 7", 1, 2000);
        reads(blanksUpTo(1999, "") + "%", 1, 1999);
        good(blanksUpTo(2000, ""));
    }

    private static void blanks() {
        CHECK.sentence("with blanks (9, 10, 13, 32) between or not");
        for (int sign = 0; sign < 256; sign++) {
            String text = "step" + (char) sign + "5;";
            if (sign == 9 || sign == 10 || sign == 13 || sign == 32 || sign == '0' || sign == '1') {
                good(text);
            } else if (sign >= '2' && sign <= '9') {
                reads(text, 5, 4);
            } else {
                reads(text, 1, sign >= 'a' && sign <= 'z' ? 0 : 4);
            }
        }
        good("house a1;house b left2;cost=(age+1)*2;forgive if(age)<1;");
        good("\t\n\r house \t a \n 1 \r ; \n\n forgive\tif\rage\n< 1\t;");
    }

    private static void longestTokens() {
        CHECK.sentence("TOKENS, the longest that can be");
        good("house lefta 1;");
        good("house a left1;");
        reads("stepa 1;", 1, 0);
        reads("house a leftright 1;", 1, 8);
        good("house a 99;");
        reads("house a 9 9;", 1, 10);
        good("forgive if 1<=2;");
        reads("forgive if 1< =2;", 1, 14);
        good("forgive if 1==2;");
        reads("forgive if 1= =2;", 1, 12);
        reads("cost==1;", 1, 4);
        reads("forgive if 1<==2;", 1, 14);
        reads("forgive if 1===2;", 1, 14);
    }

    private static void names() {
        CHECK.sentence("NAMES (letters a .. z, 8 at most, none of the words in quotes)");
        for (int sign = 0; sign < 256; sign++) {
            String text = "house " + (char) sign + " 1;";
            if (sign >= 'a' && sign <= 'z') {
                good(text);
            } else {
                boolean blank = sign == 9 || sign == 10 || sign == 13 || sign == 32;
                reads(text, 1, blank ? 8 : 6);
            }
        }
        good("house abcdefgh 1;");
        reads("house abcdefghi 1;", 1, 6);
        reads("house zzzzzzzzzzzzzzzz 1;", 1, 6);
        reads("house aB 1;", 1, 7);
    }

    private static void wordsAreNoNames() {
        CHECK.sentence("none of the words in quotes");
        for (String word : WORDS) {
            reads("house " + word + " 1;", 1, 6);
            if (word.length() < 8) {
                good("house " + word + "q 1;");
                good("house q" + word + " 1;");
            }
            String shorter = word.substring(1);
            good("house " + shorter + " 1;");
        }
        good("house o 1;house fa 2;house eldes 3;house forgiv 4;");
    }

    private static void ints() {
        CHECK.sentence("INTS (1 to 4 digits)");
        good("house a 9;");
        good("house a 0099;");
        reads("house a 00099;", 1, 8);
        reads("house a 00000;", 1, 8);
        good("cost=9999;");
        reads("cost=10000;", 1, 5);
        reads("cost=1+12345678901234567890;", 1, 7);
        AgeHill hill = CHECK.hill("house a 1;worth=0123+0009*0070;");
        hill.come(1, 1, false);
        CHECK.due("worth=0123+0009*0070", hill.worth(0, 0), 753);
        AgeHill digits = CHECK.hill("house a 1;cost=1234+5678+90;");
        digits.come(1, 1, false);
        CHECK.due("cost=1234+5678+90", digits.least(0, 1), 7002);
    }

    private static void signs() {
        CHECK.sentence("SIGNS ; = + - * / == != < <= ( ) .");
        good("cost=1+2-3*4/(5);forgive if 1==2 or 1!=2 or 1<2 or 1<=2;");
        reads("forgive if 1!2;", 1, 12);
        reads("forgive if 1! =2;", 1, 12);
        reads("forgive if 1>2;", 1, 12);
        reads("forgive if 1>=2;", 1, 12);
        reads("cost=1.;", 1, 6);
        reads("cost=1,2;", 1, 6);
    }

    private static void allElse() {
        CHECK.sentence("A longer one, all else, is no TOKEN.");
        for (int sign = 0; sign < 256; sign++) {
            boolean blank = sign == 9 || sign == 10 || sign == 13 || sign == 32;
            if (!blank) {
                reads("step 5; " + (char) sign, 1, 8);
            }
        }
        reads("abcdefghi", 1, 0);
        reads("step 12345;", 1, 5);
    }

    // ---- the grammar ----

    private static void grammar() {
        tellings();
        whatGoesOn();
    }

    private static void tellings() {
        CHECK.sentence("text: {TELL}.");
        good("");
        good(" ");
        good("step 5;");
        good("step 5;step 5;house a 1;lane 3;by mean;cost=1;worth=1;comes=1;dies=1;forgive if 1<2;");
        reads(";", 1, 0);
        reads("step 5;;", 1, 7);
    }

    /** What may follow ahead of 'END' (the text's end) after each beginning; all else is a fault at its place. */
    private static void whatGoesOn() {
        CHECK.sentence("1 SYNTAX: a TOKEN, or what is none, with which no text goes on.");
        String tells = "house step lane by cost worth comes dies forgive END";
        String unit = "5 ( " + VARS;
        String more = "+ - * / ";
        goesOn("", tells);
        goesOn("step 5 ;", tells);
        goesOn("house", "x");
        goesOn("house x", "left right 5");
        goesOn("house x left", "5");
        goesOn("house x right", "5");
        goesOn("house x 5", ";");
        goesOn("house x left 5", ";");
        goesOn("step", "5");
        goesOn("lane", "5");
        goesOn("step 5", ";");
        goesOn("lane 5", ";");
        goesOn("by", "eldest mean");
        goesOn("by eldest", ";");
        goesOn("by mean", ";");
        for (String formula : new String[] {"cost", "worth", "comes", "dies"}) {
            goesOn(formula, "=");
            goesOn(formula + " =", unit);
            goesOn(formula + " = 1", more + ";");
            goesOn(formula + " = 1 ;", tells);
        }
        goesOn("cost = age", more + ";");
        for (String sign : more.split(" ")) {
            goesOn("cost = 1 " + sign, unit);
            goesOn("cost = 1 " + sign + " 2", more + ";");
        }
        goesOn("cost = (", unit);
        goesOn("cost = ( 1", more + ")");
        goesOn("cost = ( 1 +", unit);
        goesOn("cost = ( 1 )", more + ";");
        goesOn("cost = ( ( 1 )", more + ")");
        conditionsGoOn(unit, more, tells);
    }

    private static void conditionsGoOn(String unit, String more, String tells) {
        String compare = "== != < <=";
        goesOn("forgive", "if");
        goesOn("forgive if", "not " + unit);
        goesOn("forgive if not", "not " + unit);
        goesOn("forgive if 1", more + compare);
        goesOn("forgive if not 1", more + compare);
        goesOn("forgive if ( 1", more + ")");
        goesOn("forgive if ( 1 )", more + compare);
        for (String sign : compare.split(" ")) {
            goesOn("forgive if 1 " + sign, unit);
            goesOn("forgive if 1 " + sign + " 2", more + "and or ;");
        }
        goesOn("forgive if 1 < ( 2", more + ")");
        goesOn("forgive if 1 < 2 and", "not " + unit);
        goesOn("forgive if 1 < 2 or", "not " + unit);
        goesOn("forgive if 1 < 2 and 3 == 4", more + "and or ;");
        goesOn("forgive if 1 < 2 or not 3 == 4", more + "and or ;");
        goesOn("forgive if 1 < 2 ;", tells);
    }

    private static void goesOn(String beginning, String next) {
        String allowed = " " + next + " ";
        boolean complete = allowed.contains(" END ");
        reads(beginning, complete ? 0 : 1, complete ? -1 : beginning.length());
        for (String word : WORDS) {
            goesOn(beginning, word, allowed.contains(" " + word + " "));
        }
        for (String token : "x 5 ; = + - * / == != < <= ( )".split(" ")) {
            goesOn(beginning, token, allowed.contains(" " + token + " "));
        }
        for (String none : "% ! > abcdefghi 12345 A".split(" ")) {
            goesOn(beginning, none, false);
        }
    }

    private static void goesOn(String beginning, String token, boolean allowed) {
        String text = beginning + " " + token;
        boolean complete = allowed && token.equals(";");
        reads(text, complete ? 0 : 1, complete ? -1 : allowed ? text.length() : beginning.length() + 1);
    }

    // ---- what is told, and what is there if it is not ----

    private static void toldAtFirst() {
        housesInOrder();
        settingsNotTold();
        formulasNotTold();
        lastOneTold();
        mostRules();
    }

    private static void housesInOrder() {
        CHECK.sentence("HOUSES are numbered from 0, the lowest, on as they stand");
        AgeHill hill = CHECK.hill("house z 7;step 2;house b left 0;house a right 99;");
        CHECK.due("count(0)", hill.count(0), 3);
        int[] good = {7, 0, 99};
        for (int h = 0; h < 3; h++) {
            CHECK.due("house(" + h + ", 0)", hill.house(h, 0), h);
            CHECK.due("house(" + h + ", 1)", hill.house(h, 1), good[h]);
        }
    }

    private static void settingsNotTold() {
        CHECK.sentence("STEP 1 .. 20 (1 if not told), LANE 1 .. 9 carts (3), BY eldest (if not told)");
        AgeHill hill = CHECK.hill("house a 1;");
        CHECK.due("STEP", hill.count(8), 1);
        CHECK.due("LANE", hill.count(9), 3);
        CHECK.due("BY", hill.count(11), 0);
        for (int step = 1; step <= 20; step++) {
            CHECK.due("STEP told", CHECK.hill("step " + step + ";").count(8), step);
        }
        for (int lane = 1; lane <= 9; lane++) {
            CHECK.due("LANE told", CHECK.hill("lane " + lane + ";").count(9), lane);
        }
        CHECK.due("BY mean told", CHECK.hill("by mean;").count(11), 1);
        CHECK.due("BY eldest told", CHECK.hill("by eldest;").count(11), 0);
    }

    private static void formulasNotTold() {
        CHECK.sentence("COST 1, WORTH good, COMES 1, DIES 0 if not told");
        AgeHill hill = CHECK.hill("house a 37;");
        hill.come(99, 99, true);
        hill.come(99, 99, true);
        CHECK.due("COST", hill.least(0, 1), 1);
        CHECK.due("WORTH", hill.worth(0, 0), 37);
        hill.live(0, 0);
        CHECK.due("COMES: 100 ages, once each", hill.mean(), 2400);
        hill.love(1, 0);
        CHECK.due("DIES", hill.waits(1, 8), 0);
    }

    private static void lastOneTold() {
        CHECK.sentence("of several the last one told");
        AgeHill hill = CHECK.hill("step 3;lane 2;by mean;cost=7;worth=8;comes=2;dies=9;house a 1;"
            + "dies=4;comes=3;worth=6;cost=5;by eldest;lane 1;step 2;");
        CHECK.due("STEP", hill.count(8), 2);
        CHECK.due("LANE", hill.count(9), 1);
        CHECK.due("BY", hill.count(11), 0);
        hill.come(50, 50, false);
        hill.come(50, 50, false);
        CHECK.due("COST", hill.least(0, 1), 5);
        CHECK.due("WORTH", hill.worth(0, 0), 6);
        hill.live(0, 0);
        CHECK.due("COMES", hill.mean(), 24 * 300);
        hill.love(1, 0);
        CHECK.due("DIES", hill.waits(1, 1), 4);
        CHECK.due("BY", CHECK.hill("by eldest;by mean;").count(11), 1);
    }

    private static void mostRules() {
        CHECK.sentence("forgive RULES, 6 at most");
        for (int rules = 0; rules <= 6; rules++) {
            CHECK.due("RULES", CHECK.hill("forgive if 1<2;".repeat(rules)).count(10), rules);
        }
        for (int holds = 0; holds < 6; holds++) {
            StringBuilder text = new StringBuilder(Check.houses(2));
            for (int rule = 0; rule < 6; rule++) {
                text.append("forgive if gap==").append(rule == holds ? 20 : rule).append(';');
            }
            AgeHill hill = CHECK.hill(text.toString());
            Check.settleIn(hill, 40, 0);
            Check.settleIn(hill, 20, 1);
            CHECK.due("RULE " + holds + " of six forgives", hill.unlawful(0), 0);
            hill.months(12);
            Check.settleIn(hill, 22, 1);
            hill.live(1, -1);
            hill.live(2, 1);
            CHECK.due("none of six forgives", hill.unlawful(0), 1);
        }
    }

    // ---- faults ----

    private static void faults() {
        firstByPlace();
        textsEnd();
        leastOfOnePlace();
        tokens401();
        houses25();
        rules7();
        brackets7();
        roomAheadOfTwice();
        twice();
        wrong();
        faultChangesNothing();
        nothingOfAFaultStays();
        allToldAtOnce();
        inPlaceOfTheOneAhead();
    }

    private static void firstByPlace() {
        CHECK.sentence("FAULTS, the first by its place");
        reads("%%", 1, 0);
        reads("step 5;%;%", 1, 7);
        reads("cost=(((((((1;%", 2, 11);
        reads("%cost=(((((((1;", 1, 0);
        reads("cost=((((((1;(", 1, 12);
        String houses = Check.houses(24);
        reads(houses + "house y 1;%", 2, houses.length());
        reads(houses + "%house y 1;", 1, houses.length());
        reads("forgive if 1<2;".repeat(6) + "forgive if (((((((1<2;", 2, 90);
        reads("cost=(((((((1)))))));" + houses + "house y 1;", 2, 11);
    }

    private static void textsEnd() {
        CHECK.sentence("the text's end: its length");
        reads("house", 1, 5);
        reads("house a 1", 1, 9);
        reads("house a 1 \t\r\n", 1, 13);
        reads("forgive if 1<2 ", 1, 15);
        reads(blanksUpTo(2000, "by"), 1, 2000);
    }

    private static void leastOfOnePlace() {
        CHECK.sentence("of one place the least");
        reads(FULL + ";", 1, 700);
        reads(FULL + "left", 1, 700);
        reads(FULL + "x", 1, 700);
        reads(FULL + "12345", 1, 700);
        reads(FULL + "step", 2, 700);
        String nearly = FULL.substring(0, 686) + "step 5;by mean;by mean";
        reads(nearly + " left", 1, 709);
        reads(nearly + ";", 2, 708);
    }

    private static void tokens401() {
        CHECK.sentence("2 ROOM: a 401st TOKEN");
        good(FULL);
        good(FULL + " \n");
        reads(FULL + "cost=1;", 2, 700);
        reads(FULL + "  forgive if 1<2;", 2, 702);
        String begun = "cost=1;".repeat(99);
        good("step 1;" + begun);
        reads("step 1;by mean;" + begun, 2, 15 + 98 * 7 + 5);
        reads("by mean;step 5;" + begun.substring(7) + "step 5;", 2, 15 + 686 + 6);
        AgeHill longest = CHECK.hill("comes=203" + "-1".repeat(198) + ";");
        CHECK.due("the longest formula: 5, where nobody can be put", longest.mean(), 24 * 500);
        good("forgive if " + "not ".repeat(394) + "1<2;");
        reads("forgive if " + "not ".repeat(395) + "1<2;", 2, 11 + 1580 + 3);
        good("cost=1" + "+1".repeat(198) + ";");
        reads("cost=1" + "+1".repeat(199) + ";", 2, 6 + 397);
    }

    private static void houses25() {
        CHECK.sentence("a 25th house, a 7th forgive (at its first TOKEN)");
        String houses = Check.houses(24);
        good(houses);
        CHECK.due("count(0)", CHECK.hill(houses).count(0), 24);
        reads(houses + " house y 1;", 2, houses.length() + 1);
        reads(houses + "house", 2, houses.length());
        reads("step 5;" + houses + "step 6;house y left 1;", 2, houses.length() + 14);
    }

    private static void rules7() {
        CHECK.sentence("a 7th forgive (at its first TOKEN)");
        String rules = "forgive if 1<2 or 2<1;".repeat(6);
        good(rules);
        reads(rules + "forgive if 1<2;", 2, rules.length());
        reads(rules + "step 5; forgive", 2, rules.length() + 8);
    }

    private static void brackets7() {
        CHECK.sentence("a 7th ( within one another (at it)");
        good("cost=((((((1))))));");
        reads("cost=(((((((1)))))));", 2, 11);
        good("cost=(((((1)+(2)))+(((3)))));");
        good("cost=((((((1))))))+((((((2))))));");
        good("cost=(1)+(2)+(3)+(4)+(5)+(6)+(7)+(8);");
        good("cost=((((((1)+(2)+(3))))));");
        reads("cost=((((((1)+((2))))))));", 2, 15);
        reads("cost=1*((((((2+(", 2, 15);
        good("forgive if ((((((1))))))<((((((2)))))) and ((((((1))))))<2;");
        reads("forgive if 1<(((((((2", 2, 19);
        good("cost=((((((1))))));worth=((((((1))))));");
    }

    private static void roomAheadOfTwice() {
        CHECK.sentence("If there is none, likewise: 3 TWICE: a NAME told already. 5 WRONG (at the INT)");
        reads("step 0;house a 1;house a 1;%", 1, 27);
        reads("step 0;house a 1;house a 1;cost=(((((((1", 2, 38);
        reads("house a 1;house a 1;lane", 1, 24);
        reads("house a 1;lane 0;house a 100;", 5, 15);
        reads("house a 1;house a 100;lane 0;", 3, 16);
        reads("house a 100;house a 1;", 5, 8);
    }

    private static void twice() {
        CHECK.sentence("3 TWICE: a NAME told already");
        good("house a 1;house aa 2;house b 3;house ab 4;house ba 5;");
        good("house abcdefgh 1;house abcdefgg 2;house bbcdefgh 3;");
        reads("house abcdefgh 1;house abcdefgh 2;", 3, 23);
        reads("house a 1;house  a 2;house a 3;", 3, 17);
        reads("house a 1;house b 2;house b 3;house a 4;", 3, 26);
        reads("house a left 1;house a right 2;", 3, 21);
        reads("house a 1;house a2;", 3, 16);
        reads("house a\t1;house b\n2;house b\r3;house a4;", 3, 26);
        String houses = Check.houses(23);
        reads(houses + "house a 1;", 3, houses.length() + 6);
        reads(houses + "house w 1;", 3, houses.length() + 6);
        good(houses + "house x 1;");
    }

    private static void wrong() {
        CHECK.sentence("5 WRONG (at the INT): GOOD above 99, STEP 0 or above 20, LANE 0 or above 9.");
        good("house a 0;house b 99;house c left 99;");
        reads("house a 100;", 5, 8);
        reads("house a  right 0100;", 5, 15);
        reads("house a 9999;", 5, 8);
        good("step 1;step 20;step 0020;");
        reads("step 0;", 5, 5);
        reads("step 0000;", 5, 5);
        reads("step 21;", 5, 5);
        reads("step 9999;", 5, 5);
        good("lane 1;lane 9;lane 009;");
        reads("lane 0;", 5, 5);
        reads("lane 10;", 5, 5);
        reads("lane 5;lane 11;lane 6;", 5, 12);
        reads("step 0;lane 0;", 5, 5);
    }

    private static void faultyRead(String text, int fault) {
        AgeHill hill = CHECK.busyHill();
        hill.back(20);
        CHECK.due("read() of " + text, CHECK.read(hill, text), fault);
        AgeHill twin = CHECK.busyHill();
        twin.back(20);
        CHECK.alikeButPlace("after read() of " + text, hill, twin);
    }

    private static void faultChangesNothing() {
        CHECK.sentence("A text with a FAULT changes nothing");
        String told = "house x 1;house y 2;step 9;lane 4;by eldest;cost=77;worth=88;comes=3;dies=55;forgive if 1<2;";
        faultyRead(told + "%", 1);
        faultyRead(told + "step 3", 1);
        faultyRead(told + "cost=(((((((1", 2);
        faultyRead(told + "house x 3;", 3);
        faultyRead(told + "step 0;", 5);
        faultyRead("%", 1);
    }

    private static void nothingOfAFaultStays() {
        CHECK.sentence("A text with a FAULT changes nothing; else it is in place of the one ahead");
        AgeHill hill = new AgeHill();
        String[] faulty = {"cost=(((1+2*(3", "worth=9-(8*", "forgive if 1<2 or not (((1", "house a 1;house a 2;", "step 0;lane 0;",
            "cost=1" + "+1".repeat(250), "comes=9;dies=9;by mean;house b 1;%"};
        for (int i = 0; i < faulty.length; i++) {
            CHECK.due("a FAULT", CHECK.read(hill, faulty[i]) > 0, true);
            String text = "house a " + i + ";worth=" + "1+".repeat(150) + "2*(3-1)-" + i + ";cost=2+3*" + i + ";";
            CHECK.due("a text behind " + faulty[i], CHECK.read(hill, text), 0);
            hill.come(50, 50, false);
            CHECK.due("its WORTH", hill.worth(0, 0), 154 - i);
            CHECK.due("its COST", hill.least(0, 1), 2 + 3 * i);
            CHECK.due("its HOUSE", hill.house(0, 1), i);
            CHECK.due("its RULES", hill.count(10), 0);
        }
        for (int i = 0; i < 12; i++) {
            CHECK.due("six brackets that stay open", CHECK.read(hill, "cost=((((((1+2*"), 1);
        }
        CHECK.due("a text", CHECK.read(hill, "house a 1;worth=((((((1+2)*3)+4)*5)+6)*7);"), 0);
        hill.come(50, 50, false);
        CHECK.due("its WORTH", hill.worth(0, 0), 497);
    }

    private static void allToldAtOnce() {
        CHECK.sentence("('cost' | 'worth' | 'comes' | 'dies') '=' E ';' | 'forgive' 'if' COND ';'.");
        AgeHill hill = CHECK.hill("forgive if gap==1;comes=2;forgive if gap==2;dies=30;forgive if gap==3;worth=40;"
            + "forgive if gap==4;cost=50;forgive if gap==5;forgive if gap==6;" + Check.houses(3));
        Check.settleIn(hill, 20, 0);
        for (int younger = 0; younger <= 7; younger++) {
            int other = Check.settleIn(hill, 20 - younger, 1);
            CHECK.due("by " + younger + " YEARS", hill.unlawful(0), younger == 7 ? 1 : 0);
            if (younger < 7) {
                hill.die(other);
            }
        }
        CHECK.due("COST", hill.least(-1, 1), 50);
        CHECK.due("WORTH", hill.worth(0, 2), 40);
        hill.love(0, 1);
        CHECK.due("DIES", hill.waits(0, 1), 30);
        Check.settleIn(hill, 9, 2);
        CHECK.due("COMES", hill.mean(), 24 * 200);
    }

    private static void inPlaceOfTheOneAhead() {
        CHECK.sentence("else it is in place of the one ahead: nobody is there then, it is MONTH 0, no MOVES are told, SLOTS hold nothing.");
        for (String text : new String[] {"", "house x 1;house y left 2;", "step 9;", Check.houses(6)}) {
            AgeHill hill = CHECK.busyHill();
            hill.hold(1);
            hill.back(20);
            CHECK.due("read()", CHECK.read(hill, text), 0);
            CHECK.alike("after read() of '" + text + "'", hill, CHECK.hill(text));
        }
    }

    // ---- formulas ----

    private static void vars() {
        wraps();
        towardsZero();
        literals();
        literalsByZero();
        expressionsByZero();
        othersAreZero();
    }

    /** WORTH to a lame one of 41 in MONTH 15 of a house b with GOOD 7 that it does not love. */
    private static void worth(String formula, int due) {
        AgeHill hill = CHECK.hill("house a 1;house b 7;worth=" + formula + ";");
        hill.come(50, 40, true);
        hill.months(15);
        CHECK.due("worth=" + formula, hill.worth(0, 1), due);
    }

    private static void wraps() {
        CHECK.sentence("VARS, of 32 bits that wrap");
        worth("8192*8192*32", 0);
        worth("8192*8192*32-1", 999);
        worth("8192*8192*32-1+1", 0);
        worth("(8192*8192*32-1+1)/8192/8192+40", 8);
        worth("8192*8192*64", 0);
        worth("8192*8192*64+5", 5);
        worth("8192*8192*32*2+6", 6);
        worth("0-8192*8192*32-1", 999);
        worth("8192*8192*32/(0-1)", 0);
        worth("(8192*8192*32/(0-1)-1)/8192/8192/8", 3);
    }

    private static void towardsZero() {
        CHECK.sentence("/ rounded towards 0");
        worth("7/2", 3);
        worth("(0-7)/2+10", 7);
        worth("7/(0-2)+10", 7);
        worth("(0-7)/(0-2)+10", 13);
        worth("(0-1)/2+10", 10);
        worth("1/9999", 0);
        worth("(0-8)/2+10", 6);
    }

    /** Whether a RULE forgives that one of 70 with one of 20, both lame, lives below one of 30 in MONTH 11. */
    private static void rule(String cond, boolean due) {
        AgeHill hill = CHECK.hill("house a 1;house b 2;step 4;worth=good;cost=to;forgive if " + cond + ";");
        hill.come(70, 70, true);
        hill.come(20, 20, true);
        hill.come(30, 30, false);
        hill.join(1, 0);
        hill.live(0, 0);
        hill.live(2, 1);
        hill.love(0, 1);
        hill.months(11);
        // These have VARS of their own, which are not those of a RULE.
        hill.worth(0, 1);
        hill.least(-1, 1);
        CHECK.due("forgive if " + cond, hill.unlawful(0), due ? 0 : 1);
    }

    private static void literals() {
        CHECK.sentence("COND: ALL {'or' ALL}. ALL: LIT {'and' LIT}. LIT: 'not' LIT | E ('==' | '!=' | '<' | '<=') E.");
        String[] signs = {"==", "!=", "<", "<="};
        boolean[][] due = {{false, true, false}, {true, false, true}, {true, false, false}, {true, true, false}};
        for (int s = 0; s < signs.length; s++) {
            for (int left = 4; left <= 6; left++) {
                boolean holds = due[s][left - 4];
                rule(left + signs[s] + 5, holds);
                rule("not " + left + signs[s] + 5, !holds);
                rule("not not " + left + signs[s] + 5, holds);
                rule("(0-" + left + ")" + signs[s] + "(0-5)", due[s][6 - left]);
            }
        }
        String[] lits = {"1==2", "1==1"};
        for (int bits = 0; bits < 8; bits++) {
            boolean a = (bits & 1) != 0;
            boolean b = (bits & 2) != 0;
            boolean c = (bits & 4) != 0;
            String first = lits[bits & 1];
            String second = lits[bits >> 1 & 1];
            String third = lits[bits >> 2];
            rule(first + " and " + second + " and " + third, a && b && c);
            rule(first + " or " + second + " or " + third, a || b || c);
            rule(first + " and " + second + " or " + third, a && b || c);
            rule(first + " or " + second + " and " + third, a || b && c);
            rule("not " + first + " and " + second + " or not " + third, !a && b || !c);
            rule("not " + first + " or " + second + " and not " + third, !a || b && !c);
        }
    }

    private static void literalsByZero() {
        CHECK.sentence("a LIT with a division by 0 does not hold, its not does");
        String[] signs = {"==", "!=", "<", "<="};
        for (String sign : signs) {
            rule("1/0" + sign + "0", false);
            rule("0" + sign + "1/0", false);
            rule("1" + sign + "1/0", false);
            rule("0/0" + sign + "0/0", false);
            rule("(2+(1/(size-2)))" + sign + "5", false);
            rule("not 1/0" + sign + "0", true);
            rule("not 0" + sign + "1/0", true);
        }
        rule("not not 1/0==0", false);
        rule("1/0==0 or 1==1", true);
        rule("1==1 or 1/0==0", true);
        rule("1==1 and 1/0==0", false);
        rule("1/0==0 and 1==1", false);
        rule("1==1 and not 1/0==0", true);
        rule("1/0==0 or 1==2", false);
    }

    private static void expressionsByZero() {
        CHECK.sentence("an E that divides by 0 anywhere in it is 0 as a whole");
        worth("5+1/0", 0);
        worth("1/0+5", 0);
        worth("5+0*(1/0)", 0);
        worth("5+(1/(size-1)-1)*0", 0);
        worth("7/(month-3)", 0);
        worth("7/(month-2)", 7);
        AgeHill cost = CHECK.hill(Check.houses(2) + "cost=5+1/(to-1);comes=3+1/(age-99);dies=9+1/(age-50);");
        Check.settleIn(cost, 50, 1);
        int young = cost.come(10, 10, false);
        CHECK.due("COST by 0-1", cost.least(young, 1), 4);
        cost.live(0, 0);
        CHECK.due("COST of the one that comes by 0", cost.least(cost.come(60, 60, false), 1), 0);
        // 99 comes 0 times, 98 twice, all others 3 times; those below 50 move who lives in 0.
        CHECK.due("COMES by 0", cost.mean(), 150);
        cost.love(young, 0);
        CHECK.due("DIES by 0, then by 1", cost.waits(young, 2), 10000 - 100 * 90);
    }

    private static void othersAreZero() {
        CHECK.sentence("as told below; all others are 0");
        rule("from==0 and to==0 and far==0 and loved==0 and good==0", true);
        rule("age==70 and size==2 and lame==2 and gap==10 and month==11", true);
        worth("from+far+gap+5", 5);
        worth("age+size+lame+month+to+loved+good", 41 + 1 + 1 + 3 + 1 + 0 + 7);
        AgeHill hill = CHECK.hill(Check.houses(3) + "cost=gap+loved+good+6;comes=size+lame+month+from+to+far+gap+loved+good+2;"
            + "dies=size+month+from+to+far+gap+loved+good+30;");
        hill.come(50, 50, true);
        hill.come(40, 40, true);
        hill.come(30, 30, true);
        hill.live(0, 0);
        hill.live(1, 1);
        hill.love(0, 2);
        hill.love(2, 0);
        hill.months(5);
        hill.worth(0, 2);
        hill.unlawful(0);
        CHECK.due("COST", hill.least(-1, 1), 6);
        hill.live(1, -1);
        hill.live(0, 2);
        Check.settleIn(hill, 60, 0);
        Check.settleIn(hill, 60, 1);
        hill.worth(0, 2);
        hill.least(-1, 1);
        CHECK.due("COMES where it can't be", hill.mean(), 4800);
        hill.worth(0, 2);
        CHECK.due("DIES", hill.waits(2, 1), 30);
    }

    // ---- promises 1 to 6 ----

    private static void promises() {
        newObject();
        feeding();
        feedBeyond();
        takingBack();
        takingTooMuchBack();
        reading();
        placeWithout();
        housesAsked();
    }

    private static void newObject() {
        CHECK.sentence("`AgeHill()`: Nothing is told.");
        AgeHill hill = new AgeHill();
        for (int what = 0; what <= 13; what++) {
            CHECK.due("count(" + what + ")", hill.count(what), what == 8 ? 1 : what == 9 ? 3 : 0);
        }
        CHECK.due("place()", hill.place(), -1);
        CHECK.due("restore(0)", hill.restore(0), false);
        CHECK.due("restore(1)", hill.restore(1), false);
        CHECK.due("forget()", hill.forget(), 0);
        CHECK.alike("new", new AgeHill(), CHECK.hill(""));
    }

    private static void feeding() {
        CHECK.sentence("Twenty bytes, the highest of a first, come behind the tape: how many it has.");
        AgeHill hill = new AgeHill();
        // "house abcdefgh 99;  ": all twenty matter; then "house i 7;" with ten bytes more.
        CHECK.due("feed", hill.feed(0x686f7573, 0x65206162, 0x63646566, 0x67682039, 0x393b2020), 20);
        CHECK.due("feed", hill.feed(0x686f7573, 0x65206920, 0x373b2020, 0x20202020, 0x20202020), 40);
        CHECK.due("read()", hill.read(), 0);
        CHECK.due("house(0, 1)", hill.house(0, 1), 99);
        CHECK.due("house(1, 1)", hill.house(1, 1), 7);
        for (int at = 0; at < 20; at++) {
            int[] five = {0x20202020, 0x20202020, 0x20202020, 0x20202020, 0x20202020};
            // A byte that is no TOKEN: 255, and 128.
            five[at / 4] |= 0xff << (24 - at % 4 * 8);
            hill.feed(five[0], five[1], five[2], five[3], five[4]);
            CHECK.due("read()", hill.read(), 1);
            CHECK.due("place()", hill.place(), at);
        }
        hill.feed(0x80808080, 0, 0, 0, 0);
        CHECK.due("read()", hill.read(), 1);
        CHECK.due("place()", hill.place(), 0);
    }

    private static AgeHill tapeOf(int bytes) {
        AgeHill hill = new AgeHill();
        // "step 5;" and blanks.
        hill.feed(0x73746570, 0x20353b20, 0x20202020, 0x20202020, 0x20202020);
        for (int fed = 20; fed < bytes; fed += 20) {
            hill.feed(0x20202020, 0x20202020, 0x20202020, 0x20202020, 0x20202020);
        }
        hill.back(hill.count(6) - bytes);
        return hill;
    }

    private static void feedBeyond() {
        CHECK.sentence("NONE, and nothing comes, if it would have more than 2,000.");
        CHECK.due("feed at 1980", tapeOf(1980).feed(0, 0, 0, 0, 0), 2000);
        CHECK.due("feed at 1979", tapeOf(1979).feed(0, 0, 0, 0, 0), 1999);
        for (int bytes : new int[] {1981, 1982, 1999, 2000}) {
            CHECK.due("bytes", tapeOf(bytes).count(6), bytes);
            CHECK.refused("feed at " + bytes, () -> tapeOf(bytes), hill -> hill.feed(0, 0, 0, 0, 0), -1);
        }
    }

    private static void takingBack() {
        CHECK.sentence("The last n bytes of the tape go: how many it has.");
        CHECK.due("back(0) of 20", tapeOf(20).back(0), 20);
        CHECK.due("back(1) of 20", tapeOf(20).back(1), 19);
        CHECK.due("back(20) of 20", tapeOf(20).back(20), 0);
        CHECK.due("back(2000) of 2000", tapeOf(2000).back(2000), 0);
        CHECK.due("back(0) of none", new AgeHill().back(0), 0);
        AgeHill hill = tapeOf(7);
        hill.back(1);
        CHECK.due("read() of 'step 5'", hill.read(), 1);
        CHECK.due("place()", hill.place(), 6);
    }

    private static void takingTooMuchBack() {
        CHECK.sentence("NONE, and nothing goes, if it has not so many, or n is below 0.");
        for (int n : new int[] {21, 2000, 2001, -1, -20, Integer.MAX_VALUE, Integer.MIN_VALUE}) {
            CHECK.refused("back(" + n + ") of 20", () -> tapeOf(20), hill -> hill.back(n), -1);
        }
        CHECK.refused("back(1) of none", AgeHill::new, hill -> hill.back(1), -1);
        CHECK.refused("back(2001) of 2000", () -> tapeOf(2000), hill -> hill.back(2001), -1);
        CHECK.refused("back(-1) of 2000", () -> tapeOf(2000), hill -> hill.back(-1), -1);
    }

    private static void reading() {
        CHECK.sentence("The tape, which is empty then, is read: 0, or the number of its FAULT.");
        AgeHill hill = new AgeHill();
        CHECK.due("read() of nothing", hill.read(), 0);
        String[] texts = {"step 5;", "step 5", "cost=(((((((1", "house a 1;house a 1;", "step 0;"};
        int[] faults = {0, 1, 2, 3, 5};
        for (int i = 0; i < texts.length; i++) {
            CHECK.due("read() of " + texts[i], CHECK.read(hill, texts[i]), faults[i]);
            CHECK.due("bytes after " + texts[i], hill.count(6), 0);
            CHECK.due("back(1) after " + texts[i], hill.back(1), -1);
        }
        CHECK.due("read() of nothing", hill.read(), 0);
        CHECK.due("an empty text is in place of the one ahead", hill.count(8), 1);
    }

    private static void placeWithout() {
        CHECK.sentence("The byte of the latest read()'s FAULT; NONE without.");
        AgeHill hill = new AgeHill();
        CHECK.due("place() of a new one", hill.place(), -1);
        CHECK.read(hill, "%");
        CHECK.due("place() 0", hill.place(), 0);
        CHECK.read(hill, "step 5;by");
        CHECK.due("place() at the end", hill.place(), 9);
        CHECK.due("place() again", hill.place(), 9);
        CHECK.feed(hill, "step 5;");
        CHECK.due("place() ahead of the next read()", hill.place(), 9);
        hill.read();
        CHECK.due("place() without", hill.place(), -1);
        CHECK.read(hill, blanksUpTo(2000, ""));
        CHECK.due("place() without", hill.place(), -1);
        CHECK.read(hill, blanksUpTo(2000, "by"));
        CHECK.due("place() 2000", hill.place(), 2000);
    }

    private static void housesAsked() {
        CHECK.sentence("Of a HOUSE: what 0: 0 neither, 1 left, 2 right, 1 GOOD, 2 the FAMILY in it (-2: empty). NONE for others.");
        AgeHill hill = CHECK.hill("house a 0;house b left 99;house c right 50;");
        Check.settleIn(hill, 20, 2);
        int[][] due = {{0, 0, -2}, {1, 99, -2}, {2, 50, 0}};
        for (int h = 0; h < 3; h++) {
            for (int what = 0; what < 3; what++) {
                CHECK.due("house(" + h + ", " + what + ")", hill.house(h, what), due[h][what]);
            }
            for (int what : new int[] {-1, 3, Integer.MIN_VALUE, Integer.MAX_VALUE}) {
                CHECK.due("house(" + h + ", " + what + ")", hill.house(h, what), -1);
            }
        }
        for (int what = 0; what < 3; what++) {
            for (int h : new int[] {-2, -1, 3, 24, Integer.MIN_VALUE, Integer.MAX_VALUE}) {
                CHECK.due("house(" + h + ", " + what + ")", hill.house(h, what), -1);
            }
            CHECK.due("no house at all", new AgeHill().house(0, what), -1);
        }
        AgeHill full = CHECK.hill(Check.houses(24));
        CHECK.due("house(23, 1)", full.house(23, 1), 23);
        CHECK.due("house(24, 1)", full.house(24, 1), -1);
    }
}
