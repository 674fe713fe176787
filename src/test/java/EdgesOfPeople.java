import java.util.NoSuchElementException;

/** The edges that the document names for promises 7 to 15: people, likings, matches, the acts but for months. */
final class EdgesOfPeople {
    private static final int[] NONE_OF_FIVE = {Integer.MIN_VALUE, -2, -1, 5, 8, 32, Integer.MAX_VALUE};
    private static final int[] NO_MATCH_OF_ONE = {Integer.MIN_VALUE, -1, 1, 20, 32, Integer.MAX_VALUE};

    private EdgesOfPeople() {
    }

    static void run() {
        person();
        share();
        liking();
        match();
        insurers();
        ask();
        wed();
        gift();
        giftsRefused();
        meddle();
        reinsure();
        part();
    }

    private static void noSuch(RivalWeds x, String call, Due.Call made) {
        Due.refuses(x, call, IndexOutOfBoundsException.class, made);
    }

    private static void bothAreOne(RivalWeds x, String call, Due.Call made) {
        Due.refuses(x, call, IllegalArgumentException.class, made);
    }

    private static void cannotBe(RivalWeds x, String call, Due.Call made) {
        Due.refuses(x, call, IllegalStateException.class, made);
    }

    private static void person() {
        RivalWeds x = Due.townOf(Due.FIVE);
        Due.says(7, "what 0 WEALTH, 1 ASKED, 2 ASKERS (both as bits), 3 the REINSURER (NONE), 4 1 if RUINED, 5 whom one is WED to (NONE)");
        Due.due("wealth", x.person(0, 0), 100);
        Due.due("asked nobody", x.person(0, 1), 0);
        Due.due("asked one", x.person(3, 1), 2);
        Due.due("askers", x.person(0, 2), 4 + 16);
        Due.due("no askers", x.person(4, 2), 0);
        x.ask(0, 4);
        Due.due("0 among them", x.person(4, 2), 1);
        x.undo();
        Due.due("reinsurer", x.person(4, 3), 2);
        Due.due("no reinsurer", x.person(0, 3), -1);
        Due.due("reinsured by 0", Due.townOf("person 1;person 1;reinsured 1 0").person(1, 3), 0);
        Due.due("not ruined", x.person(4, 4), 0);
        Due.due("wed to the second", x.person(0, 5), 1);
        Due.due("wed to the first", x.person(1, 5), 0);
        Due.due("wed to nobody", x.person(2, 5), -1);
        x.part(0);
        Due.due("wed no more", x.person(1, 5), -1);
        x.wed(2, 0);
        Due.due("wed to another", x.person(0, 5), 2);
        Due.says(7, "NoSuchElementException: another what");
        for (int what : new int[] {Integer.MIN_VALUE, -1, 7, 8, Integer.MAX_VALUE}) {
            Due.element("person(4, " + what + ")", () -> x.person(4, what));
        }
        Due.refuses(x, "person(0, 7)", NoSuchElementException.class, () -> x.person(0, 7));
        Due.says(7, "IndexOutOfBoundsException: there is no such PERSON (told first)");
        for (int person : NONE_OF_FIVE) {
            Due.bounds("person(" + person + ", 0)", () -> x.person(person, 0));
            Due.bounds("person(" + person + ", 7)", () -> x.person(person, 7));
        }
        Due.due("the last one there is", x.person(4, 0), 5);
        Due.says(7, "RUINED: who has less than it pays");
        RivalWeds y = Due.townOf("person 0;person 0;person 7;person 8;pays 8;premium 0;bar 99;asked 2 0;asked 3 1;wed 0 1 happy 9");
        y.months(1);
        Due.due("7 of 8", y.person(2, 4), 1);
        Due.due("8 of 8", y.person(3, 4), 0);
    }

    private static void share() {
        Due.says(7, "6 SHARE: WEALTH in hundredths of that of all, rounded down");
        RivalWeds x = Due.townOf("person 1;person 2;person 3");
        Due.due("1 of 6", x.person(0, 6), 16);
        Due.due("2 of 6", x.person(1, 6), 33);
        Due.due("3 of 6", x.person(2, 6), 50);
        RivalWeds y = Due.townOf("person 999;person 1;person 999;person 999;person 999;person 999;person 999;person 999");
        Due.due("1 of many", y.person(1, 6), 0);
        Due.due("999 of 6994", y.person(0, 6), 14);
        Due.due("all of all", Due.townOf("person 1;person 0").person(0, 6), 100);
        Due.due("none of all", Due.townOf("person 1;person 0").person(1, 6), 0);
        Due.says(7, "SHARE: 0 without");
        Due.due("nobody has anything", Due.townOf("person 0;person 0").person(1, 6), 0);
    }

    private static void liking() {
        RivalWeds x = Due.townOf(Due.FIVE);
        Due.says(8, "LIKING of the first one for the other one");
        Due.due("0 for 1", x.liking(0, 1), 9);
        Due.due("1 for 0", x.liking(1, 0), 4);
        Due.due("4 for 0", x.liking(4, 0), 0);
        Due.says(8, "IllegalArgumentException: both are one");
        for (int one = 0; one < 5; one++) {
            int both = one;
            Due.argument("liking of oneself", () -> x.liking(both, both));
        }
        bothAreOne(x, "liking(0, 0)", () -> x.liking(0, 0));
        Due.says(8, "IndexOutOfBoundsException: there is no such PERSON (told first)");
        for (int none : NONE_OF_FIVE) {
            Due.bounds("liking(" + none + ", 0)", () -> x.liking(none, 0));
            Due.bounds("liking(0, " + none + ")", () -> x.liking(0, none));
            Due.bounds("liking of none for none", () -> x.liking(none, none));
        }
    }

    private static void match() {
        RivalWeds x = Due.townOf(Due.FIVE);
        Due.says(9, "0, 1 both (as wed)");
        x.wed(4, 3);
        Due.due("the first one", x.match(1, 0), 4);
        Due.due("the second one", x.match(1, 1), 3);
        Due.says(9, "2 HAPPY, 3 MONTHS, 4 1 if OVER");
        Due.due("happy", x.match(0, 2), 25);
        Due.due("months", x.match(0, 3), 0);
        Due.due("goes on", x.match(0, 4), 0);
        x.months(1);
        Due.due("months", x.match(0, 3), 1);
        x.part(0);
        Due.due("over", x.match(0, 4), 1);
        Due.due("the other one goes on", x.match(1, 4), 0);
        Due.due("months stand", x.match(0, 3), 1);
        Due.says(9, "5 INSURERS, as bits (0 if OVER)");
        Due.due("over", x.match(0, 5), 0);
        x.undo();
        Due.due("not over", x.match(0, 5), 28);
        Due.says(9, "6 what it TURNS by now (of one that is OVER by no INSURERS)");
        Due.law(x, "lift 1 if insured;lift 2 if insurers > 2;lift 4 if insurers < 1;sour 30");
        Due.due("with three insurers, below 0", x.match(0, 6), -27);
        x.part(0);
        Due.due("over", x.match(0, 6), -26);
        Due.law(x, "lift 1 if months > 0 and happy > 29 and liking > 12 and rich");
        Due.due("all else as it is", x.match(0, 6), 1);
        Due.says(9, "NoSuchElementException: another what");
        for (int what : new int[] {Integer.MIN_VALUE, -1, 7, 8, Integer.MAX_VALUE}) {
            Due.element("match(0, " + what + ")", () -> x.match(0, what));
        }
        Due.says(9, "IndexOutOfBoundsException: there is no such MATCH (told first)");
        RivalWeds y = Due.townOf(Due.FIVE);
        for (int none : NO_MATCH_OF_ONE) {
            Due.bounds("match(" + none + ", 0)", () -> y.match(none, 0));
            Due.bounds("match(" + none + ", 7)", () -> y.match(none, 7));
        }
        Due.bounds("a town without one", () -> new RivalWeds().match(0, 0));
    }

    private static void insurers() {
        String town = "person 9;person 9;person 9;person 9;person 9;person 9;wed 0 1 happy 50;bar 0;premium 0;";
        Due.says(9, "INSURERS of a MATCH: none (0), if they are fewer than two");
        Due.due("none", Due.townOf(town + "bar 0").match(0, 5), 0);
        Due.due("one", Due.townOf(town + "asked 2 0").match(0, 5), 0);
        Due.due("one who asked both", Due.townOf(town + "asked 2 0;asked 2 1").match(0, 5), 0);
        Due.due("two", Due.townOf(town + "asked 2 0;asked 5 0").match(0, 5), 36);
        Due.says(9, "all who ASKED one of both");
        Due.due("one or the other or both", Due.townOf(town + "asked 2 0;asked 3 1;asked 4 0;asked 4 1").match(0, 5), 28);
        Due.due("not who asked another", Due.townOf(town + "asked 2 0;asked 3 1;asked 4 5").match(0, 5), 12);
        Due.due("not whom they asked", Due.townOf(town + "asked 0 2;asked 1 3;asked 0 4").match(0, 5), 0);
        Due.says(9, "are neither of both");
        Due.due("one and both", Due.townOf(town + "asked 2 0;asked 0 1;asked 1 0").match(0, 5), 0);
        Due.due("two and both", Due.townOf(town + "asked 2 0;asked 3 0;asked 0 1;asked 1 0").match(0, 5), 12);
        Due.says(9, "and not RUINED");
        RivalWeds x = Due.townOf("person 9;person 9;person 0;person 9;person 9;asked 2 0;asked 3 0;asked 4 0;wed 0 1 happy 50;premium 0;bar 99;pays 1");
        Due.due("ahead of it", x.match(0, 5), 28);
        x.months(1);
        Due.due("2 is ruined", x.count(10), 4);
        Due.due("behind it", x.match(0, 5), 24);
        Due.town(x, "pays 8");
        x.months(1);
        Due.due("8 of 8: nobody more", x.count(10), 4);
        x.months(1);
        Due.due("0 of 8: all", x.count(10), 28);
        Due.due("nobody", x.match(0, 5), 0);
    }

    private static void ask() {
        RivalWeds x = Due.townOf("person 1;person 1;person 1");
        Due.says(10, "One ASKS another one: whether one had not");
        Due.due("had not", x.ask(0, 1), true);
        Due.due("had", x.ask(0, 1), false);
        Due.due("another one", x.ask(0, 2), true);
        Due.due("the other way", x.ask(1, 0), true);
        Due.due("asked", x.person(0, 1), 6);
        Due.town(x, "asked 2 1");
        Due.due("had by a text", x.ask(2, 1), false);
        Due.says(10, "an ACT also if it changes nothing");
        Due.due("one act", x.count(14), 1);
        Due.says(10, "IllegalArgumentException: both are one");
        bothAreOne(x, "ask(0, 0)", () -> x.ask(0, 0) ? 1 : 0);
        bothAreOne(x, "ask(2, 2)", () -> x.ask(2, 2) ? 1 : 0);
        Due.says(10, "IndexOutOfBoundsException: there is no such PERSON (told first)");
        for (int none : new int[] {Integer.MIN_VALUE, -1, 3, 32, Integer.MAX_VALUE}) {
            Due.bounds("ask(none, 0)", () -> x.ask(none, 0) ? 1 : 0);
            Due.bounds("ask(0, none)", () -> x.ask(0, none) ? 1 : 0);
            Due.bounds("ask(none, none)", () -> x.ask(none, none) ? 1 : 0);
        }
        noSuch(x, "ask(0, 3)", () -> x.ask(0, 3) ? 1 : 0);
    }

    private static void wed() {
        RivalWeds x = Due.townOf("person 1;person 1;person 1;person 1");
        Due.says(11, "Two are WED (HAPPY 50): the MATCH");
        Due.due("the first", x.wed(2, 1), 0);
        Due.due("happy", x.match(0, 2), 50);
        Due.due("months", x.match(0, 3), 0);
        Due.due("as wed", 10 * x.match(0, 0) + x.match(0, 1), 21);
        Due.says(11, "IllegalStateException: one of both is WED");
        cannotBe(x, "the first one of a match, first", () -> x.wed(2, 0));
        Due.state("the first one of a match, second", () -> x.wed(0, 2));
        Due.state("the second one of a match, first", () -> x.wed(1, 0));
        cannotBe(x, "the second one of a match, second", () -> x.wed(0, 1));
        Due.state("both", () -> x.wed(1, 2));
        Due.due("the others", x.wed(0, 3), 1);
        x.part(0);
        Due.due("of one that is over", x.wed(1, 2), 2);
        RivalWeds y = Due.townOf("person 1;person 1;person 1");
        Due.says(11, "IllegalArgumentException: both are one (told ahead of who is WED)");
        y.wed(0, 1);
        bothAreOne(y, "who is wed", () -> y.wed(0, 0));
        bothAreOne(y, "who is not", () -> y.wed(2, 2));
        Due.says(11, "IndexOutOfBoundsException: there is no such PERSON (told first)");
        for (int none : new int[] {Integer.MIN_VALUE, -1, 3, 32, Integer.MAX_VALUE}) {
            Due.bounds("wed(none, 0)", () -> y.wed(none, 0));
            Due.bounds("wed(0, none)", () -> y.wed(0, none));
            Due.bounds("wed(none, none)", () -> y.wed(none, none));
        }
        noSuch(y, "wed(2, 3)", () -> y.wed(2, 3));
        RivalWeds z = Due.townOf("person 1;person 1;person 1;person 1");
        Due.says(11, "UnsupportedOperationException: there are 20 (those that are OVER, too)");
        for (int i = 0; i < 19; i++) {
            z.part(z.wed(0, 1));
        }
        Due.due("the twentieth", z.wed(0, 1), 19);
        Due.unsupported("the 21st", () -> z.wed(2, 3));
        Due.due("matches", z.count(1), 20);
        Due.due("wed are 0 and 1", z.count(11), 3);
        Due.says(11, "Of several exceptions the one told first is thrown: there are 20");
        Due.state("one of both is wed", () -> z.wed(2, 1));
        Due.argument("both are one", () -> z.wed(2, 2));
        Due.bounds("there is no such person", () -> z.wed(2, 4));
        Due.due("undone", z.undo(), true);
        Due.due("there is a place again", z.wed(3, 2), 19);
    }

    private static void gift() {
        String town = "person 1;person 1;person 999;person 10;person 9;person 99;asked 2 0;asked 3 1;asked 4 1;";
        RivalWeds x = Due.townOf(town + "wed 0 1 happy 90;reinsured 3 2;reinsured 4 2");
        Due.says(12, "an INSURER of a MATCH gives 10 of its own WEALTH (no REINSURER): HAPPY is 5 more");
        Due.due("happy", x.gift(3, 0), 95);
        Due.due("one's own", x.person(3, 0), 0);
        Due.due("no reinsurer", x.person(2, 0), 999);
        Due.due("both have nothing of it", x.person(0, 0) + x.person(1, 0), 2);
        Due.due("who gives all one has is not ruined", x.count(10), 0);
        Due.says(12, "HAPPY is 5 more (99 at most)");
        Due.due("95 and 5", x.gift(2, 0), 99);
        Due.due("99 and 5", x.gift(2, 0), 99);
        Due.due("it is given all the same", x.person(2, 0), 979);
        Due.due("94 and 5", Due.townOf(town + "wed 0 1 happy 94").gift(2, 0), 99);
        Due.due("93 and 5", Due.townOf(town + "wed 0 1 happy 93").gift(2, 0), 98);
        Due.due("0 and 5", Due.townOf(town + "wed 0 1 happy 0").gift(2, 0), 5);
        Due.says(12, "IllegalStateException: one has less than 10");
        Due.state("9", () -> x.gift(4, 0));
        cannotBe(x, "0", () -> x.gift(3, 0));
        Due.says(12, "IllegalStateException: one is no INSURER of it");
        Due.state("who asked nobody", () -> x.gift(5, 0));
        Due.state("one of both", () -> x.gift(0, 0));
    }

    private static void giftsRefused() {
        RivalWeds x = Due.townOf("person 99;person 99;person 99;person 99;asked 2 0;asked 0 1;wed 0 1 happy 9");
        Due.says(12, "IllegalStateException: of fewer than two INSURERS one is none");
        Due.state("one alone", () -> x.gift(2, 0));
        x.ask(3, 0);
        Due.due("two", x.gift(2, 0), 14);
        Due.says(12, "IllegalStateException: it is OVER");
        x.part(0);
        cannotBe(x, "over", () -> x.gift(2, 0));
        Due.says(12, "IndexOutOfBoundsException: there is no such PERSON, MATCH (told first)");
        for (int none : new int[] {Integer.MIN_VALUE, -1, 4, 32, Integer.MAX_VALUE}) {
            Due.bounds("gift(none, 0)", () -> x.gift(none, 0));
            Due.bounds("gift(0, none)", () -> x.gift(0, none));
            Due.bounds("gift(none, none)", () -> x.gift(none, none));
        }
        noSuch(x, "gift(2, 1)", () -> x.gift(2, 1));
    }

    private static void meddle() {
        String town = "person 1;person 1;person 0;person 10;asked 2 0;asked 3 1;bar 50;";
        RivalWeds x = Due.townOf(town + "wed 0 1 happy 9");
        Due.says(13, "an INSURER sours it: HAPPY is 5 less (0 at least; it goes on)");
        Due.due("9 less 5, by one who has nothing", x.meddle(2, 0), 4);
        Due.due("4 less 5", x.meddle(3, 0), 0);
        Due.due("0 less 5", x.meddle(3, 0), 0);
        Due.due("it goes on", x.match(0, 4), 0);
        Due.due("they are wed", x.person(0, 5), 1);
        Due.due("it costs nothing", x.person(3, 0), 10);
        Due.due("below the bar no claim comes of it", x.count(12), 0);
        Due.due("5 less 5", Due.townOf(town + "wed 0 1 happy 5").meddle(2, 0), 0);
        Due.due("6 less 5", Due.townOf(town + "wed 0 1 happy 6").meddle(2, 0), 1);
        Due.says(13, "IllegalStateException: one is no INSURER of it");
        Due.state("one of both", () -> x.meddle(1, 0));
        RivalWeds y = Due.townOf("person 1;person 1;person 1;person 1;asked 2 0;asked 3 2;wed 0 1 happy 9");
        cannotBe(y, "one alone", () -> y.meddle(2, 0));
        Due.state("who asked another", () -> y.meddle(3, 0));
        Due.says(13, "IllegalStateException: it is OVER");
        x.part(0);
        cannotBe(x, "over", () -> x.meddle(2, 0));
        Due.says(13, "IndexOutOfBoundsException: there is no such PERSON, MATCH (told first)");
        for (int none : new int[] {Integer.MIN_VALUE, -1, 4, 32, Integer.MAX_VALUE}) {
            Due.bounds("meddle(none, 0)", () -> x.meddle(none, 0));
            Due.bounds("meddle(0, none)", () -> x.meddle(0, none));
            Due.bounds("meddle(none, none)", () -> x.meddle(none, none));
        }
        noSuch(y, "meddle(2, 1)", () -> y.meddle(2, 1));
    }

    private static void reinsure() {
        RivalWeds x = Due.townOf("person 1;person 1;person 1");
        Due.says(14, "A REINSURER is told (other NONE: none): who it was; NONE");
        Due.due("none was", x.reinsure(1, 0), -1);
        Due.due("0 is", x.person(1, 3), 0);
        Due.due("0 was", x.reinsure(1, 2), 0);
        Due.due("2 was", x.reinsure(1, -1), 2);
        Due.due("none is", x.person(1, 3), -1);
        Due.due("none was", x.reinsure(1, -1), -1);
        Due.due("acts also if it changes nothing", x.count(14), 4);
        Due.due("not the other way", x.person(2, 3), -1);
        Due.says(14, "IllegalArgumentException: both are one");
        bothAreOne(x, "reinsure(1, 1)", () -> x.reinsure(1, 1));
        Due.says(14, "IndexOutOfBoundsException: there is no such PERSON (told first)");
        for (int none : new int[] {Integer.MIN_VALUE, -2, 3, 32, Integer.MAX_VALUE}) {
            Due.bounds("reinsure(none, 0)", () -> x.reinsure(none, 0));
            Due.bounds("reinsure(0, none)", () -> x.reinsure(0, none));
            Due.bounds("reinsure(none, none)", () -> x.reinsure(none, none));
        }
        noSuch(x, "reinsure(-1, -1)", () -> x.reinsure(-1, -1));
        noSuch(x, "reinsure(3, -1)", () -> x.reinsure(3, -1));
    }

    private static void part() {
        RivalWeds x = Due.townOf("person 1;person 1;person 1;person 1;wed 0 1 happy 0;wed 2 3 happy 99");
        Due.says(15, "Divorce: HAPPY that it had; divorce: it is OVER");
        Due.due("99", x.part(1), 99);
        Due.due("over", x.match(1, 4), 1);
        Due.due("it has it still", x.match(1, 2), 99);
        Due.due("the other goes on", x.match(0, 4), 0);
        Due.due("0", x.part(0), 0);
        Due.due("no claims", x.count(12), 0);
        Due.says(15, "IllegalStateException: it is OVER");
        cannotBe(x, "again", () -> x.part(0));
        RivalWeds y = Due.townOf("person 1;person 1;wed 0 1 happy 1;bar 0");
        y.months(1);
        cannotBe(y, "over by its happiness", () -> y.part(0));
        Due.says(15, "IndexOutOfBoundsException: there is no such MATCH");
        for (int none : new int[] {Integer.MIN_VALUE, -1, 2, 20, 32, Integer.MAX_VALUE}) {
            Due.bounds("part(none)", () -> x.part(none));
        }
        noSuch(x, "part(2)", () -> x.part(2));
    }
}
