/** Promises 30 to 33: who would rather have whom, ways that nobody would leave, the most weddings. */
final class PairsTest {
    public static void main(String[] args) {
        rather();
        lovers();
        steady();
        steadyOdd();
        weddings();
        Due.close("PairsTest");
    }

    private static void rather() {
        RivalWeds x = Due.townOf("person 1;person 1;person 1;person 1;likes 0 0550;likes 1 0006");
        Due.due("all liked", x.rather(0), 6);
        Due.due("one", x.rather(1), 8);
        Due.due("nobody", x.rather(3), 0);
        x.wed(0, 2);
        Due.due("as much is not more", x.rather(0), 0);
        x.part(0);
        x.wed(3, 0);
        Due.due("more than 0", x.rather(0), 6);
        Due.due("3 would rather nobody", x.rather(3), 0);
        Due.bounds("rather(4)", () -> x.rather(4));
        Due.bounds("rather(-1)", () -> x.rather(-1));
    }

    private static void lovers() {
        RivalWeds x = Due.townOf("person 0;person 0;person 9;person 9;person 9;likes 0 05003;likes 1 40000;likes 4 90000;likes 2 90000");
        Due.due("two pairs", x.lovers(false), 2);
        Due.due("0 and 1", x.lovers(true), 1);
        x.wed(0, 1);
        Due.due("who have one another", x.lovers(false), 0);
        Due.due("none", x.lovers(true), -1);
        x.part(0);
        x.wed(4, 0);
        Due.due("0 and 1 again", x.lovers(false), 1);
        x.part(1);
        Due.town(x, "asked 0 3;asked 4 3;wed 2 3 happy 9;bar 99;pays 9");
        x.months(1);
        Due.due("0 is ruined", x.count(10), 1);
        Due.due("ruined ones are none", x.lovers(false), 0);
        Due.due("none", x.lovers(true), -1);
        Due.town(x, "likes 3 04000;likes 1 00010");
        Due.due("1 and 3 though one is wed", x.lovers(true), 13);
        Due.due("of four people none", Due.townOf("person 1;person 1;person 1;person 1").lovers(false), 0);
    }

    private static void steady() {
        RivalWeds x = new RivalWeds();
        Due.due("of nobody one way", x.steady(-1), 1);
        Due.bounds("steady(0)", () -> x.steady(0));
        Due.town(x, "person 1;person 1");
        Due.due("of two", x.steady(-1), 1);
        Due.due("each other", x.steady(1), 0);
        Due.town(x, "person 1;person 1");
        Due.due("of four", x.steady(-1), 3);
        Due.due("0 has 1", x.steady(0), 1);
        Due.due("3 has 2", x.steady(3), 2);
        Due.bounds("steady(4)", () -> x.steady(4));
        Due.bounds("steady(-2)", () -> x.steady(-2));
        Due.town(x, "likes 0 0020;likes 2 1000");
        Due.due("0 and 2 must", x.steady(-1), 1);
        Due.due("1 has 3", x.steady(1), 3);
        Due.town(x, "likes 0 0321;likes 1 2031;likes 2 3201;likes 3 1110");
        Due.due("no way", x.steady(-1), 0);
        Due.due("nobody", x.steady(0), -1);
        Due.town(x, "person 1;person 1;person 1;person 1");
        RivalWeds all = Due.townOf("person 1;person 1;person 1;person 1;person 1;person 1;person 1;person 1");
        Due.due("of eight", all.steady(-1), 105);
        Due.due("wed ones count as all", all.wed(0, 7), 0);
        Due.due("of eight", all.steady(0), 1);
    }

    private static void steadyOdd() {
        RivalWeds x = Due.townOf("person 1");
        Due.due("one alone", x.steady(-1), 1);
        Due.due("is left out", x.steady(0), 0);
        Due.town(x, "person 1;person 1");
        Due.due("of three", x.steady(-1), 3);
        Due.due("0 is left out first", x.steady(0), 0);
        Due.due("1 has 2", x.steady(1), 2);
        Due.town(x, "likes 0 050;likes 1 500");
        Due.due("0 and 1", x.steady(-1), 1);
        Due.due("0 has 1", x.steady(0), 1);
        Due.due("2 is left out", x.steady(2), 2);
        RivalWeds y = Due.townOf("person 1;person 1;person 1;likes 0 010");
        Due.due("1 left out and 0 would", y.steady(-1), 2);
        Due.town(y, "likes 0 000;likes 1 100");
        Due.due("0 left out and 1 would", y.steady(-1), 2);
        Due.due("so 0 has 1", y.steady(0), 1);
        Due.due("five", Due.townOf("person 1;person 1;person 1;person 1;person 1").steady(-1), 15);
        Due.due("as told", Due.townOf(Due.FIVE).steady(-1), 3);
    }

    private static void weddings() {
        RivalWeds x = Due.townOf("person 1;person 1;person 1;person 1;person 1;person 1");
        Due.due("none", x.weddings(), 0);
        x.ask(1, 2);
        Due.due("one way is enough", x.weddings(), 1);
        x.ask(2, 1);
        Due.due("both are one", x.weddings(), 1);
        x.ask(0, 1);
        Due.due("1 but once", x.weddings(), 1);
        x.ask(3, 2);
        Due.due("0 1 and 2 3", x.weddings(), 2);
        x.ask(4, 2);
        x.ask(5, 2);
        Due.due("2 but once", x.weddings(), 2);
        x.ask(5, 4);
        Due.due("three", x.weddings(), 3);
        RivalWeds y = Due.townOf("person 1;person 1;person 1;person 1;asked 0 2;asked 3 1");
        Due.due("crosswise", y.weddings(), 2);
        x.wed(0, 5);
        Due.due("not of wed ones", x.weddings(), 1);
        x.part(0);
        Due.due("over they count again", x.weddings(), 3);
    }
}
