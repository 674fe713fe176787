/** The edges that the document names for promises 30 to 36: rather, lovers, ways, weddings, told sets, the richest. */
final class EdgesOfPairs {
    private static final int[] NONE_OF_FOUR = {Integer.MIN_VALUE, -1, 4, 8, 32, Integer.MAX_VALUE};
    private static final String FOUR = "person 1;person 1;person 1;person 1";
    private static final String EIGHT = FOUR + ";" + FOUR;

    private EdgesOfPairs() {
    }

    static void run() {
        rather();
        lovers();
        loversRuined();
        steady();
        steadyOdd();
        steadyLeaves();
        weddings();
        anniversary();
        toldRows();
        wrongRows();
        dance();
        richest();
    }

    private static void rather() {
        Due.says(30, "whom one would rather have (a greater LIKING) than whom one is WED to");
        RivalWeds x = Due.townOf(FOUR + ";likes 0 0545;likes 1 0010");
        x.wed(0, 2);
        Due.due("5 and 5 are more than 4", x.rather(0), 10);
        x.part(0);
        x.wed(0, 1);
        Due.due("5 is not more than 5", x.rather(0), 0);
        Due.due("of the second one: 1 is more than 0", x.rather(1), 4);
        x.part(1);
        Due.says(30, "(all with a LIKING above 0, if one is not), as bits");
        Due.due("all", x.rather(0), 14);
        Due.due("1 is above 0", x.rather(1), 4);
        Due.due("0 is not", x.rather(2), 0);
        x.wed(0, 1);
        x.wed(2, 3);
        Due.due("WED ones count, too", x.rather(1), 4);
        Due.says(30, "IndexOutOfBoundsException: there is no such PERSON");
        for (int none : NONE_OF_FOUR) {
            Due.bounds("rather(" + none + ")", () -> x.rather(none));
        }
    }

    private static void lovers() {
        Due.says(31, "two who would both RATHER have one another than whom they have: how many such pairs");
        RivalWeds x = Due.townOf(EIGHT + ";likes 7 00000010;likes 6 00000001;likes 1 00000010;likes 2 00010000;likes 3 00100000");
        Due.due("2 3 and 6 7", x.lovers(false), 2);
        Due.says(31, "the first one (10 times the one and the other, the one the lesser; the least)");
        Due.due("2 3", x.lovers(true), 23);
        x.wed(3, 2);
        Due.due("who have one another are none", x.lovers(false), 1);
        Due.due("6 7", x.lovers(true), 67);
        x.wed(6, 0);
        Due.due("6 would rather, and is wed", x.lovers(true), 67);
        Due.town(x, "likes 6 10000001");
        Due.due("6 would not", x.lovers(false), 0);
        Due.says(31, "none; NONE");
        Due.due("the first", x.lovers(true), -1);
        Due.due("of nobody", new RivalWeds().lovers(true), -1);
        Due.due("of nobody", new RivalWeds().lovers(false), 0);
        Due.due("of one", Due.townOf("person 1").lovers(true), -1);
        RivalWeds y = Due.townOf("person 1;person 1;likes 0 01;likes 1 10");
        Due.due("0 1", y.lovers(true), 1);
        Due.due("one pair, not two", y.lovers(false), 1);
        RivalWeds all = Due.townOf(EIGHT);
        Due.town(all, "likes 0 01111111;likes 1 10111111;likes 2 11011111;likes 3 11101111;likes 4 11110111;likes 5 11111011;likes 6 11111101;likes 7 11111110");
        Due.due("all", all.lovers(false), 28);
        Due.due("0 1", all.lovers(true), 1);
        RivalWeds one = Due.townOf(FOUR + ";likes 0 0009;likes 1 0009;likes 3 0900");
        Due.due("one alone would not", one.lovers(true), 13);
    }

    private static void loversRuined() {
        Due.says(31, "none of both RUINED");
        RivalWeds x = Due.townOf("person 0;person 0;person 0;person 9;person 9;likes 2 00010;likes 3 00100;asked 2 0;asked 3 0;bar 99;pays 1;wed 0 1 happy 9");
        Due.due("ahead of it", x.lovers(false), 1);
        x.months(1);
        Due.due("2 is ruined", x.count(10), 4);
        Due.due("behind it", x.lovers(false), 0);
        Due.due("the first", x.lovers(true), -1);
        Due.due("one would rather all the same", x.rather(2), 8);
        Due.town(x, "likes 2 03000;likes 1 00300");
        Due.due("1 2, the other one ruined", x.lovers(false), 0);
        Due.due("one would rather all the same", x.rather(1), 4);
        Due.due("the first", x.lovers(true), -1);
        Due.town(x, "likes 3 00001;likes 4 00110;likes 2 00001");
        Due.due("3 4, not 2 4", x.lovers(true), 34);
    }

    private static void steady() {
        Due.says(32, "all ways to put PEOPLE into pairs (nobody left out): how many");
        Due.due("nobody: one way", new RivalWeds().steady(-1), 1);
        Due.due("two", Due.townOf("person 1;person 1").steady(-1), 1);
        Due.due("four", Due.townOf(FOUR).steady(-1), 3);
        Due.due("six", Due.townOf(FOUR + ";person 1;person 1").steady(-1), 15);
        Due.due("eight", Due.townOf(EIGHT).steady(-1), 105);
        Due.says(32, "so that no two would both rather have one another (by LIKING)");
        RivalWeds x = Due.townOf(FOUR + ";likes 0 0010;likes 2 1000");
        Due.due("0 2 and 1 3", x.steady(-1), 1);
        Due.due("0", x.steady(0), 2);
        Due.due("1", x.steady(1), 3);
        RivalWeds one = Due.townOf(FOUR + ";likes 0 0010");
        Due.due("one of them alone would", one.steady(-1), 3);
        RivalWeds as = Due.townOf(FOUR + ";likes 0 0550;likes 2 5000;likes 1 5000");
        Due.due("as much is not rather", as.steady(-1), 2);
        Due.says(32, "whom one has in the first such way (PERSON 0 the least that can be, then 1, ..)");
        Due.due("0 has 1", as.steady(0), 1);
        Due.due("1 has 0", as.steady(1), 0);
        Due.due("2 has 3", as.steady(2), 3);
        Due.due("3 has 2", as.steady(3), 2);
        RivalWeds six = Due.townOf(FOUR + ";person 1;person 1;likes 1 000001;likes 5 010000");
        Due.due("0 has the least that can be", six.steady(0), 2);
        Due.due("1 has 5", six.steady(1), 5);
        Due.due("3 has 4", six.steady(3), 4);
        Due.due("of three", six.steady(-1), 3);
        RivalWeds wed = Due.townOf(FOUR + ";wed 0 3 happy 9");
        Due.due("WED ones count as all do", wed.steady(0), 1);
        Due.says(32, "none");
        RivalWeds none = Due.townOf(FOUR + ";likes 0 0321;likes 1 2031;likes 2 3201;likes 3 1110");
        Due.due("no way", none.steady(-1), 0);
        for (int p = 0; p < 4; p++) {
            Due.due("nobody has anybody", none.steady(p), -1);
        }
        Due.says(32, "IndexOutOfBoundsException: there is no such PERSON");
        for (int person : new int[] {Integer.MIN_VALUE, -2, 4, 8, 32, Integer.MAX_VALUE}) {
            Due.bounds("steady(" + person + ")", () -> none.steady(person));
        }
        Due.bounds("of nobody", () -> new RivalWeds().steady(0));
    }

    private static void steadyOdd() {
        Due.says(32, "nobody left out, but for one if they are odd");
        Due.due("one", Due.townOf("person 1").steady(-1), 1);
        Due.due("three", Due.townOf("person 1;person 1;person 1").steady(-1), 3);
        Due.due("five", Due.townOf(FOUR + ";person 1").steady(-1), 15);
        Due.due("seven", Due.townOf(FOUR + ";person 1;person 1;person 1").steady(-1), 105);
        Due.says(32, "oneself counts as left out, ahead of all others");
        Due.due("one", Due.townOf("person 1").steady(0), 0);
        RivalWeds x = Due.townOf("person 1;person 1;person 1");
        Due.due("0 is left out", x.steady(0), 0);
        Due.due("1 has 2", x.steady(1), 2);
        Due.due("2 has 1", x.steady(2), 1);
        Due.town(x, "likes 0 001;likes 2 100");
        Due.due("0 has 2", x.steady(0), 2);
        Due.due("1 is left out", x.steady(1), 1);
        Due.due("one way", x.steady(-1), 1);
        RivalWeds five = Due.townOf(FOUR + ";person 1;likes 0 01000;likes 1 10000");
        Due.due("0 has 1", five.steady(0), 1);
        Due.due("2 is left out", five.steady(2), 2);
        Due.due("3 has 4", five.steady(3), 4);
        Due.due("three ways", five.steady(-1), 3);
    }

    private static void steadyLeaves() {
        Due.says(32, "who is left out would rather have anybody");
        RivalWeds x = Due.townOf("person 1;person 1;person 1;likes 1 200");
        Due.due("not 0, whom 1 would rather have than 2; 1 or 2 may be", x.steady(-1), 2);
        Due.due("0 has 1 first", x.steady(0), 1);
        Due.due("2 is left out", x.steady(2), 2);
        Due.town(x, "likes 2 100;likes 1 002");
        Due.due("not 0, whom 2 would rather have, nor 2, whom 1 would", x.steady(-1), 1);
        Due.due("0 has 2", x.steady(0), 2);
        Due.town(x, "likes 2 010");
        Due.due("1 and 2 would both: they have one another", x.steady(-1), 1);
        RivalWeds y = Due.townOf("person 1;person 1;person 1;likes 0 010;likes 1 001;likes 2 100");
        Due.due("each of three would leave for the one who is left out", y.steady(-1), 0);
        Due.due("nobody has anybody", y.steady(0), -1);
    }

    private static void weddings() {
        Due.says(33, "each of whom ASKED the other one or was ASKED by that one, two by two");
        RivalWeds x = Due.townOf(EIGHT);
        Due.due("none", x.weddings(), 0);
        x.ask(7, 0);
        Due.due("one way", x.weddings(), 1);
        x.ask(0, 7);
        Due.due("both ways are one pair", x.weddings(), 1);
        x.ask(0, 1);
        x.ask(2, 0);
        Due.due("0 but once", x.weddings(), 1);
        Due.says(33, "the most pairs");
        x.ask(1, 2);
        Due.due("0 7 and 1 2", x.weddings(), 2);
        x.ask(3, 4);
        x.ask(5, 4);
        x.ask(5, 6);
        Due.due("3 4 and 5 6, not 4 5", x.weddings(), 4);
        RivalWeds path = Due.townOf(FOUR + ";asked 0 1;asked 0 2;asked 1 3");
        Due.due("0 2 and 1 3, not 0 1", path.weddings(), 2);
        Due.due("of nobody", new RivalWeds().weddings(), 0);
        Due.due("of one", Due.townOf("person 1").weddings(), 0);
        Due.says(33, "PEOPLE not WED");
        x.wed(0, 3);
        Due.due("1 2 and 5 6", x.weddings(), 2);
        x.part(0);
        Due.due("over they are not", x.weddings(), 4);
        Due.says(33, "RUINED ones, too");
        RivalWeds y = Due.townOf("person 0;person 0;person 0;person 0;asked 2 0;asked 3 1;asked 3 2;bar 99;pays 1;wed 0 1 happy 9");
        y.months(1);
        Due.due("2 and 3 are", y.count(10), 12);
        Due.due("2 3", y.weddings(), 1);
    }

    private static int sets(RivalWeds x, int... told) {
        Due.bytes(x, told);
        return x.anniversary(false);
    }

    private static int sure(RivalWeds x, int... told) {
        Due.bytes(x, told);
        return x.anniversary(true);
    }

    private static int danced(RivalWeds x, int... told) {
        Due.bytes(x, told);
        return x.dance();
    }

    private static void anniversary() {
        RivalWeds x = Due.townOf(FOUR);
        Due.says(34, "some rows of PEOPLE (from one to another, by numbers, both too): sets of PEOPLE that fit: how many");
        Due.due("0 to 3", sets(x, 0, 3, 2), 6);
        Due.due("1 to 2, both", sets(x, 1, 2, 2), 4);
        Due.due("1 to 1", sets(x, 1, 1, 1), 8);
        Due.due("3 to 3, not", sets(x, 3, 3, 0), 8);
        Due.due("all", sets(x, 0, 3, 4), 1);
        Due.due("one more than there are", sets(x, 0, 3, 5), 0);
        Due.due("255", sets(x, 0, 3, 255), 0);
        Due.due("none", sets(x, 0, 3, 0), 1);
        Due.due("two rows", sets(x, 0, 1, 1, 1, 2, 1), 4);
        Due.due("two that cannot be", sets(x, 0, 0, 1, 0, 0, 0), 0);
        Due.due("eight people, all", sets(Due.townOf(EIGHT), 0, 7, 8), 1);
        Due.due("eight people, four of them", sets(Due.townOf(EIGHT), 0, 7, 4), 70);
        Due.says(34, "none may be told");
        Due.due("of four", sets(x), 16);
        Due.due("of eight", sets(Due.townOf(EIGHT)), 256);
        Due.due("of nobody", new RivalWeds().anniversary(false), 1);
        Due.due("sure of four", sure(x), 0);
        Due.says(34, "SURE: those in all, as bits (0 without)");
        Due.due("1 and 2", sure(x, 1, 2, 2), 6);
        Due.due("nobody", sure(x, 0, 3, 0), 0);
        Due.due("all", sure(Due.townOf(EIGHT), 0, 7, 8), 255);
        Due.due("of two sets what both have", sure(x, 0, 2, 3), 7);
        Due.due("of two rows", sure(x, 0, 1, 1, 0, 0, 0, 2, 3, 1), 2);
        Due.due("without sets", sure(x, 0, 3, 5), 0);
        Due.due("without sets", sure(x, 0, 0, 1, 0, 0, 0), 0);
        Due.due("of nobody", new RivalWeds().anniversary(true), 0);
        Due.says(34, "how many of them had asked somebody is told, not looked up");
        x.ask(0, 1);
        Due.due("0 is not", sets(x, 0, 0, 0), 8);
    }

    private static void toldRows() {
        Due.says(34, "36 bytes at most");
        RivalWeds x = Due.townOf(FOUR);
        int[] rows = new int[36];
        for (int i = 0; i < 36; i += 3) {
            rows[i + 1] = 3;
            rows[i + 2] = 2;
        }
        Due.due("12 rows that tell the same", sets(x, rows), 6);
        rows[33] = 3;
        rows[35] = 1;
        Due.due("the twelfth is looked at", sets(x, rows), 3);
        Due.due("sure by it", sure(x, rows), 8);
        Due.says(35, "the TAPE likewise: 36 bytes at most");
        Due.due("0 is in 1 of 3", danced(x, rows), 0);
        for (int length = 37; length <= 40; length++) {
            tooMany(x, new int[length]);
        }
        tooMany(x, new int[120]);
        tooMany(x, new int[399]);
    }

    private static void tooMany(RivalWeds x, int[] told) {
        Due.says(34, "IllegalArgumentException: the TAPE is not that: above 36 bytes");
        Due.bytes(x, told);
        Due.argument(told.length + " bytes", () -> x.anniversary(false));
        Due.due("they are used up", x.end(1), false);
        Due.says(35, "IllegalArgumentException: the TAPE is not that: above 36 bytes");
        Due.bytes(x, told);
        Due.argument(told.length + " bytes", () -> x.dance());
        Due.due("they are used up", x.end(1), false);
    }

    private static void wrongRows() {
        int[][] wrong = {{1, 0, 0}, {3, 2, 1}, {0, 4, 0}, {4, 4, 0}, {0, 255, 0}, {255, 255, 0}, {255, 0, 0}, {128, 127, 0}, {0, 128, 0},
            {0}, {0, 0}, {0, 0, 0, 0}, {0, 0, 0, 0, 0}, {0, 0, 0, 1, 0, 0}, {0, 0, 0, 0, 4, 0}, {0, 4, 0, 0, 0, 0}};
        for (int[] told : wrong) {
            Due.says(34, "IllegalArgumentException: from is above to, there is no such PERSON, three bytes of each");
            RivalWeds x = Due.townOf(FOUR);
            Due.bytes(x, told);
            Due.refuses(x, "anniversary", IllegalArgumentException.class, () -> x.anniversary(false));
            Due.due("it is used up", x.end(1), false);
            Due.bytes(x, told);
            Due.argument("sure", () -> x.anniversary(true));
            Due.due("it is used up", x.end(1), false);
            Due.says(35, "IllegalArgumentException: the TAPE is not that");
            Due.bytes(x, told);
            Due.refuses(x, "dance", IllegalArgumentException.class, () -> x.dance());
            Due.due("it is used up", x.end(1), false);
        }
        Due.says(34, "Uses the TAPE up; there is no such PERSON in a town without PEOPLE");
        RivalWeds nobody = new RivalWeds();
        Due.bytes(nobody, 0, 0, 0);
        Due.argument("0 to 0", () -> nobody.anniversary(false));
        Due.due("it is used up", nobody.anniversary(false), 1);
        RivalWeds x = Due.townOf(FOUR);
        Due.due("8", sets(x, 0, 0, 1), 8);
        Due.due("the row of before is gone", x.anniversary(false), 16);
        Due.due("0", danced(x, 1, 1, 1), 0);
        Due.due("the row of before is gone", x.end(1), false);
    }

    private static void dance() {
        RivalWeds x = Due.townOf(FOUR);
        Due.says(35, "the PERSON by whom these are parted (in, or not) so that the greater part is the least");
        Due.due("0 is in all", danced(x, 0, 0, 1), 1);
        Due.due("0 is in none", danced(x, 0, 0, 0), 1);
        Due.due("3 parts 3 and 3, the others 2 and 4", danced(x, 0, 2, 1), 3);
        Due.due("the greater part, not the lesser: of 3 and 3 against 4 and 2", danced(x, 0, 2, 2), 3);
        Due.says(35, "of several the least");
        Due.due("all alike", danced(x), 0);
        Due.due("all alike, 1 of 4", danced(x, 0, 3, 1), 0);
        Due.due("all alike, 3 of 4", danced(x, 0, 3, 3), 0);
        Due.due("2 and 3 alike", danced(x, 0, 1, 2), 2);
        Due.says(35, "none with fewer than two; NONE");
        Due.due("one", danced(x, 0, 3, 4), -1);
        Due.due("none", danced(x, 0, 3, 5), -1);
        Due.due("two", danced(x, 0, 2, 3), 3);
        Due.due("of nobody", new RivalWeds().dance(), -1);
        Due.due("of one", Due.townOf("person 1").dance(), 0);
    }

    private static void richest() {
        Due.says(36, "of all not RUINED the one of the most WEALTH (of several the least; none)");
        Due.due("none", new RivalWeds().richest(), -1);
        Due.due("who has nothing", Due.townOf("person 0").richest(), 0);
        Due.due("the most", Due.townOf("person 7;person 9;person 8").richest(), 1);
        Due.due("of several", Due.townOf("person 7;person 9;person 9").richest(), 1);
        Due.due("of all alike", Due.townOf("person 0;person 0").richest(), 0);
        Due.due("the last", Due.townOf("person 998;person 0;person 999").richest(), 2);
        RivalWeds x = Due.townOf("person 0;person 9;person 5;person 50;asked 2 0;asked 3 1;asked 1 2;asked 0 3;bar 99;pays 60;premium 0;wed 0 1 happy 50");
        x.months(1);
        Due.due("2 and 3 are ruined", x.count(10), 12);
        Due.due("1 has 28 and 9", x.richest(), 1);
        x.part(0);
        Due.town(x, "wed 2 3 happy 50");
        x.months(1);
        Due.due("0 and 1, too", x.count(10), 15);
        Due.due("2 has more than any, and all are ruined", x.richest(), -1);
        RivalWeds y = Due.townOf("person 90;person 90;person 80;person 0;asked 0 2;asked 1 2;bar 99;pays 99;premium 0;wed 2 3 happy 50");
        y.months(1);
        Due.due("0 and 1 are ruined", y.count(10), 3);
        Due.due("2 has 90 more", y.richest(), 2);
        Due.town(y, "asked 2 0;asked 3 1");
        y.part(0);
        Due.town(y, "wed 0 1 happy 9;pays 1");
        y.months(1);
        Due.due("a ruined one may have wealth, and is not the richest", y.richest(), 2);
    }
}
