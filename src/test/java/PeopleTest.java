/** Promises 7 to 15: people, likings, matches, and the acts but for months. */
final class PeopleTest {
    public static void main(String[] args) {
        person();
        liking();
        match();
        ask();
        wed();
        gift();
        meddle();
        reinsure();
        part();
        Due.close("PeopleTest");
    }

    private static void person() {
        RivalWeds x = Due.townOf(Due.FIVE);
        int[] zero = {100, 0, 20, -1, 0, 1, 51};
        int[] two = {8, 1, 0, 3, 0, -1, 4};
        for (int what = 0; what < 7; what++) {
            Due.due("person(0, " + what + ")", x.person(0, what), zero[what]);
            Due.due("person(2, " + what + ")", x.person(2, what), two[what]);
        }
        Due.due("the second of both", x.person(1, 5), 0);
        Due.element("person(0, 7)", () -> x.person(0, 7));
        Due.element("person(0, -1)", () -> x.person(0, -1));
        Due.bounds("person(5, 7): no such person is told first", () -> x.person(5, 7));
        Due.bounds("person(-1, 0)", () -> x.person(-1, 0));
        RivalWeds poor = Due.townOf("person 0;person 0");
        Due.due("a share of nothing", poor.person(1, 6), 0);
        RivalWeds penny = Due.townOf("person 0;person 1");
        Due.due("a share of 1", penny.person(1, 6), 100);
        RivalWeds one = Due.townOf("person 999");
        Due.due("a share of all", one.person(0, 6), 100);
        RivalWeds three = Due.townOf("person 1;person 1;person 1");
        Due.due("a share rounded down", three.person(2, 6), 33);
        RivalWeds ruined = Due.townOf("person 5;person 5;person 1;person 1;asked 2 0;asked 3 1;pays 9;bar 99;wed 0 1 happy 50");
        Due.due("not ruined", ruined.person(2, 4), 0);
        ruined.months(1);
        Due.due("ruined", ruined.person(2, 4), 1);
        Due.due("and has nothing", ruined.person(2, 0), 0);
    }

    private static void liking() {
        RivalWeds x = Due.townOf(Due.FIVE);
        Due.due("liking(2, 1)", x.liking(2, 1), 3);
        Due.due("liking(1, 2)", x.liking(1, 2), 0);
        Due.argument("liking(2, 2)", () -> x.liking(2, 2));
        Due.bounds("liking(5, 5)", () -> x.liking(5, 5));
        Due.bounds("liking(0, 5)", () -> x.liking(0, 5));
        Due.bounds("liking(0, -1)", () -> x.liking(0, -1));
        Due.bounds("liking(-1, 0)", () -> x.liking(-1, 0));
    }

    private static void match() {
        RivalWeds x = Due.townOf(Due.FIVE);
        Due.town(x, "bar 10");
        int[] due = {0, 1, 25, 0, 0, 28, 13};
        for (int what = 0; what < 7; what++) {
            Due.due("match(0, " + what + ")", x.match(0, what), due[what]);
        }
        Due.element("match(0, 7)", () -> x.match(0, 7));
        Due.element("match(0, -1)", () -> x.match(0, -1));
        Due.bounds("match(1, 7)", () -> x.match(1, 7));
        Due.bounds("match(-1, 0)", () -> x.match(-1, 0));
        x.months(2);
        Due.due("months", x.match(0, 3), 2);
        Due.due("it turns by the latest quarrel, 8", x.match(0, 6), 5);
        Due.law(x, "lift 1 if insured;lift 2 if insurers > 2;lift 4 if insurers < 1;lift 8 if months > 1");
        Due.due("it turns with insurers", x.match(0, 6), 11);
        x.part(0);
        Due.due("over", x.match(0, 4), 1);
        Due.due("over without insurers", x.match(0, 5), 0);
        Due.due("over it turns by none", x.match(0, 6), 12);
        Due.due("both as wed", x.match(x.wed(4, 2), 0), 4);
        Due.due("the second one", x.match(1, 1), 2);
        RivalWeds few = Due.townOf("person 1;person 1;person 1;person 1;asked 2 0;asked 2 1;asked 0 1;asked 1 0;wed 0 1 happy 9");
        Due.due("fewer than two", few.match(0, 5), 0);
        few.ask(3, 0);
        Due.due("two", few.match(0, 5), 12);
        RivalWeds rich = Due.townOf("person 50;person 49;wed 0 1 happy 9");
        Due.law(rich, "lift 3 if rich");
        Due.due("99 is not rich", rich.match(0, 6), 0);
        Due.town(rich, "person 1;person 1;asked 2 0;asked 3 1;premium 0;bar 10;pays 1");
        rich.months(1);
        Due.due("100 is rich", rich.match(0, 6), 3);
    }

    private static void ask() {
        RivalWeds x = Due.townOf(Due.FIVE);
        Due.due("ask", x.ask(1, 4), true);
        Due.due("ask again", x.ask(1, 4), false);
        Due.due("both are acts", x.count(14), 2);
        Due.due("asked", x.person(1, 1), 16);
        Due.due("askers", x.person(4, 2), 2);
        Due.due("0 asks too", x.ask(0, 4), true);
        Due.due("askers", x.person(4, 2), 3);
        x.undo();
        Due.argument("ask(1, 1)", () -> x.ask(1, 1) ? 1 : 0);
        Due.bounds("ask(5, 5)", () -> x.ask(5, 5) ? 1 : 0);
        Due.bounds("ask(0, 5)", () -> x.ask(0, 5) ? 1 : 0);
        Due.bounds("ask(-1, 0)", () -> x.ask(-1, 0) ? 1 : 0);
        Due.due("what is refused is no act", x.count(14), 2);
    }

    private static void wed() {
        RivalWeds x = Due.townOf(Due.FIVE);
        Due.state("one is wed", () -> x.wed(2, 1));
        Due.state("the other is", () -> x.wed(0, 3));
        Due.argument("wed(0, 0): that both are one is told first", () -> x.wed(0, 0));
        Due.bounds("wed(5, 5)", () -> x.wed(5, 5));
        Due.bounds("wed(0, -1)", () -> x.wed(0, -1));
        Due.due("wed", x.wed(3, 2), 1);
        Due.due("happy", x.match(1, 2), 50);
        Due.due("months", x.match(1, 3), 0);
        Due.due("first", x.match(1, 0), 3);
        Due.due("matches", x.count(1), 2);
        x.part(1);
        for (int i = 2; i < 20; i++) {
            Due.due("again", x.wed(2, 3), i);
            x.part(i);
        }
        Due.unsupported("the 21st", () -> x.wed(2, 3));
        Due.state("a wed one is told first", () -> x.wed(2, 0));
        Due.due("matches", x.count(1), 20);
        x.undo();
        x.undo();
        Due.due("undone there is a place again", x.wed(4, 3), 19);
        Due.due("of new ones", x.match(19, 0), 4);
    }

    private static void gift() {
        RivalWeds x = Due.townOf(Due.FIVE);
        Due.town(x, "person 10;asked 5 0");
        Due.due("a gift", x.gift(3, 0), 30);
        Due.due("wealth", x.person(3, 0), 40);
        Due.due("all that one has", x.gift(5, 0), 35);
        Due.due("wealth", x.person(5, 0), 0);
        Due.due("not ruined by it", x.person(5, 4), 0);
        Due.state("less than 10 (its reinsurer gives nothing)", () -> x.gift(2, 0));
        Due.state("no insurer", () -> x.gift(0, 0));
        Due.bounds("gift(6, 0)", () -> x.gift(6, 0));
        Due.bounds("gift(3, 1)", () -> x.gift(3, 1));
        Due.bounds("gift(3, -1)", () -> x.gift(3, -1));
        Due.bounds("gift(-1, 0)", () -> x.gift(-1, 0));
        Due.due("acts", x.count(14), 2);
        x.part(0);
        Due.state("over", () -> x.gift(3, 0));
        RivalWeds y = Due.townOf("person 1;person 1;person 99;person 99;asked 2 0;asked 3 0;wed 0 1 happy 96");
        Due.due("99 at most", y.gift(2, 0), 99);
        Due.due("also then", y.gift(2, 0), 99);
        Due.due("it is given all the same", y.person(2, 0), 79);
    }

    private static void meddle() {
        RivalWeds x = Due.townOf(Due.FIVE);
        Due.due("meddle", x.meddle(4, 0), 20);
        Due.due("it costs nothing", x.person(4, 0), 5);
        for (int i = 0; i < 3; i++) {
            x.meddle(2, 0);
        }
        Due.due("happy", x.match(0, 2), 5);
        Due.due("0", x.meddle(2, 0), 0);
        Due.due("0 at least", x.meddle(2, 0), 0);
        Due.due("it goes on", x.match(0, 4), 0);
        Due.due("no claim by it", x.count(12), 0);
        Due.due("acts", x.count(14), 6);
        Due.state("no insurer", () -> x.meddle(1, 0));
        Due.bounds("meddle(5, 0)", () -> x.meddle(5, 0));
        Due.bounds("meddle(2, 1)", () -> x.meddle(2, 1));
        x.part(0);
        Due.state("over", () -> x.meddle(2, 0));
        RivalWeds y = Due.townOf("person 1;person 1;person 9;person 9;asked 2 0;asked 3 0;wed 0 1 happy 3");
        Due.due("3 less than 5", y.meddle(2, 0), 0);
    }

    private static void reinsure() {
        RivalWeds x = Due.townOf(Due.FIVE);
        Due.due("who it was", x.reinsure(2, 4), 3);
        Due.due("who it is", x.person(2, 3), 4);
        Due.due("none told", x.reinsure(2, -1), 4);
        Due.due("none", x.person(2, 3), -1);
        Due.due("none was", x.reinsure(2, -1), -1);
        Due.due("acts", x.count(14), 3);
        Due.argument("reinsure(2, 2)", () -> x.reinsure(2, 2));
        Due.bounds("reinsure(5, 5)", () -> x.reinsure(5, 5));
        Due.bounds("reinsure(2, 5)", () -> x.reinsure(2, 5));
        Due.bounds("reinsure(2, -2)", () -> x.reinsure(2, -2));
        Due.bounds("reinsure(-1, -1)", () -> x.reinsure(-1, -1));
    }

    private static void part() {
        RivalWeds x = Due.townOf(Due.FIVE);
        Due.due("part", x.part(0), 25);
        Due.due("it keeps its happiness", x.match(0, 2), 25);
        Due.due("over", x.match(0, 4), 1);
        Due.due("not wed", x.person(0, 5), -1);
        Due.due("nobody is", x.count(11), 0);
        Due.state("again", () -> x.part(0));
        Due.bounds("part(1)", () -> x.part(1));
        Due.bounds("part(-1)", () -> x.part(-1));
        x.months(3);
        Due.due("no months for it", x.match(0, 3), 0);
        Due.due("nor premiums", x.person(0, 0), 100);
        Due.due("wed again", x.wed(1, 0), 1);
    }
}
