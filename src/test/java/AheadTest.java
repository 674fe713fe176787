/** Promises 17 to 22 and 29: who would insure whom, whom to wed, what is ahead of a match, the fewest gifts. */
final class AheadTest {
    private static final String CALM = "person 60;person 39;person 5;person 5;asked 2 0;asked 3 1;likes 0 0400;"
            + "likes 1 2000;wed 0 1 happy 41;bar 30;premium 9";

    public static void main(String[] args) {
        would();
        best();
        next();
        ahead();
        first();
        odds();
        fromZero();
        gifts();
        giftsThatSour();
        overAndWrong();
        Due.close("AheadTest");
    }

    private static void would() {
        RivalWeds x = Due.townOf(Due.FIVE);
        Due.due("who are wed", x.would(0, 1), 28);
        Due.due("the other way", x.would(1, 0), 28);
        Due.due("one of both alone", x.would(0, 3), 20);
        Due.due("one is none", x.would(0, 2), 0);
        Due.due("nobody", x.would(2, 4), 0);
        x.ask(1, 2);
        x.ask(0, 4);
        Due.due("who are wed insure others", x.would(2, 4), 3);
        Due.argument("would(1, 1)", () -> x.would(1, 1));
        Due.bounds("would(5, 5)", () -> x.would(5, 5));
        Due.bounds("would(0, 5)", () -> x.would(0, 5));
        Due.bounds("would(-1, 0)", () -> x.would(-1, 0));
        x.reinsure(4, -1);
        Due.town(x, "bar 99;pays 12;premium 0");
        x.months(1);
        Due.due("4 is ruined", x.person(4, 4), 1);
        Due.due("and insures nobody", x.would(0, 1), 12);
    }

    private static void best() {
        RivalWeds x = Due.townOf("person 1;person 1;person 1;person 1;person 1;asked 1 0;asked 2 3;asked 4 3;likes 2 12020");
        Due.due("three insurers", x.best(0), 3);
        Due.due("two", x.best(1), 3);
        Due.due("without: the one liked, then the least", x.best(2), 1);
        Due.due("without liking: the least", x.best(4), 0);
        x.wed(3, 4);
        Due.due("a wed one is none", x.best(0), 1);
        Due.due("nor for a wed one", x.best(3), -1);
        x.wed(0, 1);
        Due.due("nobody is left", x.best(2), -1);
        Due.bounds("best(5)", () -> x.best(5));
        Due.bounds("best(-1)", () -> x.best(-1));
        RivalWeds y = Due.townOf("person 1;person 1;person 1;person 1;person 1;asked 3 0;asked 4 0;asked 3 1;likes 1 00900");
        Due.due("more insurers ahead of liking", y.best(1), 0);
        RivalWeds z = Due.townOf("person 1;person 1;person 1;person 1;person 1;asked 3 0;asked 4 0;asked 1 2;asked 3 2;asked 4 2");
        Due.due("three are more than two", z.best(0), 2);
        Due.town(z, "likes 0 09000");
        Due.due("though another is liked", z.best(0), 2);
        Due.due("alone", Due.townOf("person 3").best(0), -1);
    }

    private static void next() {
        RivalWeds x = Due.townOf(CALM);
        Due.due("next(0, 0)", x.next(0, 0), 47);
        Due.due("next(0, 9)", x.next(0, 9), 38);
        Due.law(x, "lift 30;lift 30");
        Due.due("99 at most", x.next(0, 0), 99);
        Due.law(x, "sour 30;sour 30");
        Due.due("0 at least", x.next(0, 0), 0);
        Due.law(x, "lift 1 if quarrel > 3;lift 2 if insurers > 1;lift 4 if rich");
        Due.due("quarrel told", x.next(0, 4), 44);
        Due.due("another", x.next(0, 3), 43);
        x.months(1);
        Due.due("the latest is not looked at", x.next(0, 0), x.match(0, 2) + 2);
    }

    private static void ahead() {
        RivalWeds x = Due.townOf(CALM);
        Due.due("now", x.ahead(0, 0, 9), 41);
        Due.due("one", x.ahead(0, 1, 9), 38);
        Due.due("13", x.ahead(0, 13, 9), 2);
        Due.due("14", x.ahead(0, 14, 9), 0);
        Due.due("40", x.ahead(0, 40, 9), 0);
        Due.due("40 calm ones", x.ahead(0, 40, 0), 99);
        Due.law(x, "sour 30;sour 30 if months < 2;lift 30 if months > 3;lift 30 if months > 3");
        Due.due("from 0 on it stays 0", x.ahead(0, 6, 0), 0);
        Due.town(x, "person 100");
        Due.law(x, "lift 1 if not rich and insured and months < 39;sour 2 if month > 10");
        Due.due("no premiums, months and month go on", x.ahead(0, 40, 0), 41 + 39 - 6);
        Due.town(x, "bar 99;pays 99");
        Due.due("nothing is paid", x.ahead(0, 40, 0), 74);
        Due.due("nothing stays", x.match(0, 2) + x.match(0, 3) + x.count(4), 41);
    }

    private static void first() {
        RivalWeds x = Due.townOf(CALM);
        Due.due("the fourth", x.first(0, 9), 4);
        Due.due("never", x.first(0, 6), -1);
        Due.due("12 by 7", x.first(0, 7), 12);
        Due.law(x, "sour 1 if months > 27");
        Due.due("the fortieth", x.first(0, 0), 40);
        Due.law(x, "sour 1 if months > 28");
        Due.due("not the 41st", x.first(0, 0), -1);
        Due.law(x, "lift 20 if months > 0;sour 1");
        Due.town(x, "bar 41");
        Due.due("at once", x.first(0, 0), 1);
        Due.town(x, "bar 99");
        Due.law(x, "lift 30");
        Due.due("now below does not count, behind a month does", x.first(0, 0), 1);
        Due.law(x, "lift 30;lift 30");
        Due.due("99 is not below 99", x.first(0, 0), -1);
    }

    private static void odds() {
        RivalWeds x = Due.townOf(CALM);
        Due.due("none", x.odds(0), 0);
        Due.town(x, "bar 40");
        Due.due("8 and 9", x.odds(0), 2);
        Due.town(x, "bar 99");
        Due.due("all", x.odds(0), 10);
        Due.town(x, "bar 50");
        Due.law(x, "lift 9 if quarrel > 2 and quarrel < 7");
        Due.due("six of ten", x.odds(0), 6);
    }

    private static void fromZero() {
        RivalWeds x = Due.townOf("person 9;person 9;person 9;person 9;asked 2 0;asked 3 1;likes 0 0900;wed 0 1 happy 5");
        Due.due("to 0", x.meddle(2, 0), 0);
        Due.due("one month turns from 0", x.next(0, 0), 9);
        Due.due("ahead stays 0, now too", x.ahead(0, 1, 0), 0);
        Due.due("ahead by none", x.ahead(0, 0, 0), 0);
        Due.due("first", x.first(0, 0), 1);
        Due.due("odds", x.odds(0), 10);
        Due.town(x, "bar 5");
        Due.due("odds behind one month", x.odds(0), 5);
        Due.town(x, "bar 20");
        Due.due("gifts lift it from 0", x.gifts(0, 1, 0), 3);
        Due.town(x, "bar 0");
        Due.due("never below 0", x.first(0, 9), -1);
        Due.due("no gifts", x.gifts(0, 20, 9), 0);
    }

    private static void gifts() {
        RivalWeds x = Due.townOf("person 9;person 9;wed 0 1 happy 25");
        Due.due("one month", x.gifts(0, 1, 9), 1);
        Due.due("two", x.gifts(0, 2, 9), 3);
        Due.due("twenty", x.gifts(0, 20, 9), 35);
        Due.due("none needed", x.gifts(0, 1, 5), 0);
        Due.due("nor here", x.gifts(0, 20, 0), 0);
        Due.town(x, "bar 45");
        Due.due("40", x.gifts(0, 20, 9), 40);
        Due.town(x, "bar 46");
        Due.due("41 are too many", x.gifts(0, 20, 9), -1);
        Due.due("of 19 months not", x.gifts(0, 19, 9), 39);
        Due.law(x, "sour 30;sour 30");
        Due.town(x, "bar 40");
        Due.due("it cannot be", x.gifts(0, 1, 0), -1);
        Due.town(x, "bar 39");
        Due.due("to 99", x.gifts(0, 1, 0), 15);
        Due.due("again", x.gifts(0, 2, 0), 27);
        Due.due("a third time", x.gifts(0, 3, 0), 39);
        Due.due("not a fourth", x.gifts(0, 4, 0), -1);
        Due.law(x, "sour 20 if months > 1 or month > 2");
        Due.due("months go on", x.gifts(0, 2, 0), 3);
        Due.due("to the third", x.gifts(0, 3, 0), 7);
        Due.due("nothing stays", x.match(0, 2) + x.count(14), 25);
        Due.town(x, "bar 99");
        Due.law(x, "lift 30;lift 30");
        Due.due("up to 99 alone", x.gifts(0, 2, 0), 3);
    }

    private static void giftsThatSour() {
        RivalWeds x = Due.townOf("person 9;person 9;bar 30;wed 0 1 happy 36");
        Due.law(x, "sour 10 if happy > 40;sour 2");
        Due.due("three months without", x.gifts(0, 3, 0), 0);
        Due.due("the fourth by a gift that waits", x.gifts(0, 4, 0), 1);
        Due.due("six", x.gifts(0, 6, 0), 2);
        Due.law(x, "sour 30 if happy < 60;sour 10 if happy > 70");
        Due.due("five at once, and no more", x.gifts(0, 20, 0), 5);
    }

    private static void overAndWrong() {
        RivalWeds x = Due.townOf(CALM);
        for (int over = 0; over < 2; over++) {
            Due.argument("next(0, 10)", () -> x.next(0, 10));
            Due.argument("next(0, -1)", () -> x.next(0, -1));
            Due.argument("ahead(0, 41, 0)", () -> x.ahead(0, 41, 0));
            Due.argument("ahead(0, -1, 0)", () -> x.ahead(0, -1, 0));
            Due.argument("ahead(0, 0, 10)", () -> x.ahead(0, 0, 10));
            Due.argument("ahead(0, 0, -1)", () -> x.ahead(0, 0, -1));
            Due.argument("first(0, 10)", () -> x.first(0, 10));
            Due.argument("first(0, -1)", () -> x.first(0, -1));
            Due.argument("gifts(0, 0, 0)", () -> x.gifts(0, 0, 0));
            Due.argument("gifts(0, 21, 0)", () -> x.gifts(0, 21, 0));
            Due.argument("gifts(0, 1, 10)", () -> x.gifts(0, 1, 10));
            Due.argument("gifts(0, 1, -1)", () -> x.gifts(0, 1, -1));
            for (int match = -1; match < 2; match += 2) {
                int none = match;
                Due.bounds("next", () -> x.next(none, 10));
                Due.bounds("ahead", () -> x.ahead(none, 41, 10));
                Due.bounds("first", () -> x.first(none, 10));
                Due.bounds("odds", () -> x.odds(none));
                Due.bounds("gifts", () -> x.gifts(none, 21, 10));
            }
            if (over == 0) {
                x.part(0);
            }
        }
        Due.due("over: next", x.next(0, 0), 0);
        Due.due("over: ahead", x.ahead(0, 0, 0), 0);
        Due.due("over: first", x.first(0, 9), -1);
        Due.due("over: odds", x.odds(0), 0);
        Due.due("over: gifts", x.gifts(0, 1, 0), -1);
    }
}
