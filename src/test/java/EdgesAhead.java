/** The edges that the document names for promises 17 to 22 and 29: who would insure, whom to wed, what is ahead, gifts. */
final class EdgesAhead {
    private static final int[] NO_QUARREL = {Integer.MIN_VALUE, -1, 10, Integer.MAX_VALUE};
    private static final int[] NO_MATCH_OF_ONE = {Integer.MIN_VALUE, -1, 1, 20, 32, Integer.MAX_VALUE};

    private EdgesAhead() {
    }

    static void run() {
        would();
        best();
        next();
        ahead();
        first();
        odds();
        gifts();
        giftsUpTo();
        refused();
        over();
        nothingStays();
    }

    private static RivalWeds lawful(String town, String law) {
        RivalWeds x = Due.townOf(town);
        Due.law(x, law);
        return x;
    }

    private static RivalWeds happy(int happy, int bar, String law) {
        return lawful("person 9;person 9;wed 0 1 happy " + happy + ";bar " + bar, law);
    }

    private static void would() {
        Due.says(17, "INSURERS that two would have if they were WED now, as bits; none (0), if they are fewer than two");
        RivalWeds x = Due.townOf("person 1;person 1;person 1;person 1;person 1;asked 2 0;asked 3 1;asked 4 3;asked 0 1");
        Due.due("two", x.would(0, 1), 12);
        Due.due("the other way", x.would(1, 0), 12);
        Due.due("one", x.would(0, 4), 0);
        Due.due("none", x.would(2, 4), 0);
        Due.due("also who asked one of them alone", x.would(1, 3), 17);
        Due.says(17, "if they were WED now: also of those who are");
        x.wed(0, 4);
        Due.due("0 and 4 are wed", x.would(1, 3), 17);
        Due.due("0 is", x.would(0, 1), 12);
        Due.says(17, "INSURERS: not RUINED");
        RivalWeds y = lawful("person 1;person 1;person 0;person 9;person 9;asked 2 0;asked 3 1;asked 4 1;bar 99;pays 1;premium 0;wed 0 1 happy 9", "");
        Due.due("three", y.would(0, 1), 28);
        y.months(1);
        Due.due("2 is ruined", y.would(0, 1), 24);
        Due.due("of a ruined one as of others", y.would(2, 1), 24);
        Due.says(17, "IllegalArgumentException: both are one");
        Due.argument("would(4, 4)", () -> x.would(4, 4));
        Due.says(17, "IndexOutOfBoundsException: there is no such PERSON (told first)");
        for (int none : new int[] {Integer.MIN_VALUE, -1, 5, 32, Integer.MAX_VALUE}) {
            Due.bounds("would(none, 0)", () -> x.would(none, 0));
            Due.bounds("would(0, none)", () -> x.would(0, none));
            Due.bounds("would(none, none)", () -> x.would(none, none));
        }
    }

    private static void best() {
        Due.says(18, "the other one with whom one would have the most INSURERS");
        String six = "person 1;person 1;person 1;person 1;person 1;person 1;";
        RivalWeds x = Due.townOf(six + "asked 3 1;asked 4 1;asked 3 2;asked 4 2;asked 5 2;likes 0 090000");
        Due.due("three ahead of two, though another is liked", x.best(0), 2);
        Due.says(18, "of several the one of the greatest LIKING that one has");
        RivalWeds y = Due.townOf(six + "asked 3 1;asked 4 1;asked 3 2;asked 4 2;likes 0 012999;likes 1 900000");
        Due.due("2 is liked more than 1", y.best(0), 2);
        RivalWeds none = Due.townOf(six + "likes 0 012342;likes 1 900000");
        Due.due("all of them have none", none.best(0), 4);
        Due.says(18, "then the least");
        Due.town(y, "likes 0 022999");
        Due.due("1 as much as 2", y.best(0), 1);
        Due.town(none, "likes 0 001221");
        Due.due("3 as much as 4", none.best(0), 3);
        Due.due("all alike", none.best(5), 0);
        Due.due("all alike", none.best(3), 0);
        Due.says(18, "fewer than two INSURERS are none");
        RivalWeds one = Due.townOf(six + "asked 3 2;likes 0 000001");
        Due.due("one is not more", one.best(0), 5);
        Due.says(18, "neither WED; NONE (also, if one is WED)");
        x.wed(2, 3);
        Due.due("2 is wed", x.best(0), 1);
        Due.due("one is wed", x.best(2), -1);
        Due.due("one is wed, as the second one", x.best(3), -1);
        x.part(0);
        Due.due("2 is not", x.best(0), 2);
        Due.says(18, "none");
        RivalWeds three = Due.townOf("person 1;person 1;person 1;wed 0 1 happy 9");
        Due.due("all others are wed", three.best(2), -1);
        Due.due("there is no other one", Due.townOf("person 1").best(0), -1);
        Due.says(18, "IndexOutOfBoundsException: there is no such PERSON");
        for (int person : new int[] {Integer.MIN_VALUE, -1, 3, 32, Integer.MAX_VALUE}) {
            Due.bounds("best(" + person + ")", () -> three.best(person));
        }
    }

    private static void next() {
        Due.says(19, "HAPPY of a MATCH behind one MONTH by a told QUARREL");
        RivalWeds x = Due.townOf("person 9;person 9;wed 0 1 happy 50;likes 0 03;likes 1 20;bar 60");
        Due.due("QUARREL 0", x.next(0, 0), 55);
        Due.due("QUARREL 9", x.next(0, 9), 46);
        Due.says(19, "0 at least, 99 at most");
        int[][] lifted = {{68, 98}, {69, 99}, {70, 99}, {99, 99}};
        for (int[] one : lifted) {
            Due.due("from " + one[0], happy(one[0], 20, "lift 30").next(0, 0), one[1]);
        }
        int[][] soured = {{31, 1}, {30, 0}, {29, 0}, {0, 0}};
        for (int[] one : soured) {
            Due.due("from " + one[0], happy(one[0], 20, "sour 30").next(0, 0), one[1]);
        }
        Due.due("from 0 on, too", happy(0, 20, "lift 7").next(0, 0), 7);
        Due.says(19, "INSURERS as they are, nothing paid");
        RivalWeds rich = lawful("person 60;person 40;person 0;person 0;asked 2 0;asked 3 0;premium 5;bar 99;pays 9;wed 0 1 happy 50", "lift 1 if rich;lift 2 if insured");
        Due.due("no premiums are paid ahead", rich.next(0, 5), 53);
        rich.months(1);
        Due.due("in a month they are", rich.match(0, 2), 52);
    }

    private static void ahead() {
        RivalWeds x = happy(50, 20, "sour 3 if quarrel > 8;lift 1 if quarrel < 1");
        Due.says(20, "AHEAD by N MONTHS (0 to 40) of a told QUARREL");
        Due.due("0", x.ahead(0, 0, 9), 50);
        Due.due("1", x.ahead(0, 1, 9), 47);
        Due.due("16", x.ahead(0, 16, 9), 2);
        Due.due("40 of QUARREL 0", x.ahead(0, 40, 0), 90);
        Due.due("39 of QUARREL 0", x.ahead(0, 39, 0), 89);
        Due.says(20, "from 0 on, now too, it stays 0");
        Due.due("17: 2 less 3", x.ahead(0, 17, 9), 0);
        RivalWeds falls = happy(30, 20, "sour 30 if months < 1;lift 30 if months > 0");
        Due.due("1: 0", falls.ahead(0, 1, 0), 0);
        Due.due("2: stays", falls.ahead(0, 2, 0), 0);
        Due.due("40: stays", falls.ahead(0, 40, 0), 0);
        RivalWeds one = happy(31, 20, "sour 30 if months < 1;lift 30 if months > 0");
        Due.due("1 does not stay", one.ahead(0, 2, 0), 31);
        RivalWeds zero = happy(0, 20, "lift 9");
        Due.due("now 0: 0 months", zero.ahead(0, 0, 0), 0);
        Due.due("now 0: 1 month", zero.ahead(0, 1, 0), 0);
        Due.due("now 0: 40 months", zero.ahead(0, 40, 0), 0);
        Due.says(20, "MONTHS, MONTH go on");
        RivalWeds months = happy(50, 20, "lift 1 if months > 9;lift 20 if month > 10");
        months.months(5);
        Due.due("months 5 to 9, months of the year 5 to 9", months.ahead(0, 5, 0), 50);
        Due.due("and 10, 10", months.ahead(0, 6, 0), 51);
        Due.due("and 11, 11", months.ahead(0, 7, 0), 72);
        Due.due("and 12, 0", months.ahead(0, 8, 0), 73);
        Due.says(20, "nothing paid, nobody RUINED");
        RivalWeds poor = lawful("person 60;person 40;person 0;person 0;asked 2 0;asked 3 0;premium 5;bar 99;pays 9;wed 0 1 happy 50", "lift 1 if rich;lift 1 if insured");
        Due.due("rich and insured as now", poor.ahead(0, 20, 0), 90);
        Due.says(20, "MONTH go on (9999 at most)");
        RivalWeds old = happy(50, 0, "lift 0");
        for (int i = 0; i < 166; i++) {
            old.months(60);
        }
        old.months(38);
        Due.law(old, "lift 1 if month > 1 and month < 3;lift 10 if month > 2 and month < 4;lift 30 if month > 3 or month < 2");
        Due.due("9998 is 2 of the year", old.ahead(0, 1, 0), 51);
        Due.due("9999 is 3 of the year", old.ahead(0, 2, 0), 61);
        Due.due("9999 again", old.ahead(0, 4, 0), 81);
    }

    private static void first() {
        Due.says(21, "the first N (1 to 40) AHEAD of a told QUARREL by which it is below BAR; none");
        Due.due("1", happy(20, 20, "sour 1").first(0, 0), 1);
        Due.due("2", happy(21, 20, "sour 1").first(0, 0), 2);
        Due.due("40", happy(59, 20, "sour 1").first(0, 0), 40);
        Due.due("not 41", happy(60, 20, "sour 1").first(0, 0), -1);
        Due.due("at the bar it is not below", happy(20, 20, "lift 0").first(0, 0), -1);
        Due.due("below now, above behind the first", happy(19, 20, "lift 1").first(0, 0), -1);
        Due.due("below now, and behind the first", happy(18, 20, "lift 1").first(0, 0), 1);
        Due.due("below but once", happy(25, 20, "sour 9 if months > 2 and months < 4;lift 9 if months > 3").first(0, 0), 4);
        Due.due("the quarrel that is told, 8", happy(25, 20, "sour 9 if quarrel > 8").first(0, 8), -1);
        Due.due("the quarrel that is told, 9", happy(25, 20, "sour 9 if quarrel > 8").first(0, 9), 1);
        Due.says(21, "AHEAD: from 0 on it stays 0");
        Due.due("0 is below 1", happy(0, 1, "lift 9").first(0, 0), 1);
        Due.due("nothing is below 0", happy(0, 0, "lift 9").first(0, 0), -1);
        Due.due("nothing is below 0", happy(9, 0, "sour 9").first(0, 0), -1);
    }

    private static void odds() {
        Due.says(22, "by how many of the ten QUARRELS it would be below BAR behind one MONTH");
        String town = "person 9;person 9;likes 0 09;wed 0 1 happy 50;bar ";
        Due.due("0 of ten", Due.townOf(town + 50).odds(0), 0);
        Due.due("QUARREL 9 alone", Due.townOf(town + 51).odds(0), 1);
        Due.due("all but QUARREL 0", Due.townOf(town + 59).odds(0), 9);
        Due.due("all ten", Due.townOf(town + 60).odds(0), 10);
        Due.due("QUARREL 0 alone", happy(50, 50, "sour 1 if quarrel < 1").odds(0), 1);
        Due.due("it is not the latest QUARREL", happy(50, 50, "sour 1 if quarrel > 3").odds(0), 6);
        Due.due("0 is not below 0", happy(0, 0, "sour 30").odds(0), 0);
        Due.due("from 0 it turns as behind one MONTH", happy(0, 5, "lift 5 if quarrel > 2").odds(0), 3);
    }

    private static void gifts() {
        Due.says(29, "the fewest in all by which the MATCH is never below BAR behind one of these MONTHS");
        Due.due("none is needed", happy(21, 20, "sour 1").gifts(0, 1, 0), 0);
        Due.due("one", happy(20, 20, "sour 1").gifts(0, 1, 0), 1);
        Due.due("one is enough for five months", happy(20, 20, "sour 1").gifts(0, 5, 0), 1);
        Due.due("two for six", happy(20, 20, "sour 1").gifts(0, 6, 0), 2);
        Due.due("four for twenty", happy(20, 20, "sour 1").gifts(0, 20, 0), 4);
        Due.due("below now does not count", happy(5, 20, "lift 15").gifts(0, 1, 0), 0);
        Due.due("below behind the third alone", happy(30, 20, "sour 11 if months > 1 and months < 3").gifts(0, 3, 0), 1);
        Due.due("not behind the second", happy(30, 20, "sour 11 if months > 1 and months < 3").gifts(0, 2, 0), 0);
        Due.due("the quarrel that is told, 9", happy(30, 20, "sour 11 if quarrel > 8").gifts(0, 1, 9), 1);
        Due.due("the quarrel that is told, 8", happy(30, 20, "sour 11 if quarrel > 8").gifts(0, 1, 8), 0);
        Due.due("the month goes on", happy(30, 20, "sour 11 if month > 10").gifts(0, 11, 0), 0);
        Due.due("the month goes on", happy(30, 20, "sour 11 if month > 10").gifts(0, 12, 0), 1);
        Due.says(29, "GIFTS are made ahead of a MONTH, as many as one likes: not all at once, if the law sours the happy");
        Due.due("one ahead of each", happy(25, 25, "sour 5;sour 30 if happy > 34").gifts(0, 4, 0), 4);
        Due.due("a gift that waits", happy(36, 30, "sour 10 if happy > 40;sour 2").gifts(0, 4, 0), 1);
        Due.says(29, "AHEAD as told: from 0 on it stays 0");
        Due.due("0 is not below 0", happy(0, 0, "lift 9").gifts(0, 20, 0), 0);
        Due.due("0 without a gift stays 0", happy(0, 9, "lift 9").gifts(0, 1, 0), 1);
        Due.due("nothing is below 0", happy(9, 0, "sour 30").gifts(0, 20, 0), 0);
    }

    private static void giftsUpTo() {
        Due.says(29, "none, if that is more than 40");
        Due.due("39", happy(15, 20, "sour 10").gifts(0, 19, 0), 39);
        Due.due("40", happy(20, 20, "sour 10").gifts(0, 20, 0), 40);
        Due.due("41", happy(19, 20, "sour 10").gifts(0, 20, 0), -1);
        Due.due("40 of 19 and one of the first", happy(19, 20, "sour 10").gifts(0, 19, 0), 39);
        Due.says(29, "none, if that cannot be");
        Due.due("99 less 60 is 39", happy(9, 39, "sour 30;sour 30").gifts(0, 1, 0), 18);
        Due.due("it is not 40", happy(9, 40, "sour 30;sour 30").gifts(0, 1, 0), -1);
        Due.due("to 0 at the last", happy(99, 1, "sour 30;sour 30;sour 30;sour 9").gifts(0, 1, 0), -1);
        Due.says(29, "GIFTS (5 more each, 99 at most)");
        Due.due("94 and one", happy(94, 99, "lift 0").gifts(0, 1, 0), 1);
        Due.due("93 and two", happy(93, 99, "lift 0").gifts(0, 1, 0), 2);
        Due.due("98 and one", happy(98, 99, "lift 0").gifts(0, 1, 0), 1);
        Due.due("0 and twenty", happy(0, 99, "lift 0").gifts(0, 1, 0), 20);
        Due.due("4 and nineteen", happy(4, 99, "lift 0").gifts(0, 1, 0), 19);
        Due.due("above 99 nothing is kept", happy(95, 69, "sour 30").gifts(0, 2, 0), 1 + 6);
    }

    private static void refused() {
        RivalWeds x = happy(50, 20, "sour 1");
        for (int over = 0; over < 2; over++) {
            Due.says(19, "IllegalArgumentException: the QUARREL is none (of one that is OVER, too)");
            for (int none : NO_QUARREL) {
                Due.argument("next(0, " + none + ")", () -> x.next(0, none));
            }
            Due.says(20, "IllegalArgumentException: N or the QUARREL are none");
            for (int none : NO_QUARREL) {
                Due.argument("ahead(0, 0, " + none + ")", () -> x.ahead(0, 0, none));
            }
            for (int none : new int[] {Integer.MIN_VALUE, -1, 41, Integer.MAX_VALUE}) {
                Due.argument("ahead(0, " + none + ", 0)", () -> x.ahead(0, none, 0));
            }
            Due.says(21, "IllegalArgumentException: the QUARREL is none");
            for (int none : NO_QUARREL) {
                Due.argument("first(0, " + none + ")", () -> x.first(0, none));
            }
            Due.says(29, "IllegalArgumentException: N or the QUARREL are none; N (1 to 20)");
            for (int none : NO_QUARREL) {
                Due.argument("gifts(0, 1, " + none + ")", () -> x.gifts(0, 1, none));
            }
            for (int none : new int[] {Integer.MIN_VALUE, -1, 0, 21, Integer.MAX_VALUE}) {
                Due.argument("gifts(0, " + none + ", 0)", () -> x.gifts(0, none, 0));
            }
            noSuchMatch(x);
            if (over == 0) {
                x.part(0);
            }
        }
        noSuchMatch(x);
    }

    private static void noSuchMatch(RivalWeds x) {
        for (int none : NO_MATCH_OF_ONE) {
            Due.says(19, "IndexOutOfBoundsException: there is no such MATCH (told first)");
            Due.bounds("next(none, 0)", () -> x.next(none, 0));
            Due.bounds("next(none, 10)", () -> x.next(none, 10));
            Due.says(20, "IndexOutOfBoundsException: there is no such MATCH (told first)");
            Due.bounds("ahead(none, 0, 0)", () -> x.ahead(none, 0, 0));
            Due.bounds("ahead(none, 41, 10)", () -> x.ahead(none, 41, 10));
            Due.says(21, "IndexOutOfBoundsException: there is no such MATCH (told first)");
            Due.bounds("first(none, 0)", () -> x.first(none, 0));
            Due.bounds("first(none, 10)", () -> x.first(none, 10));
            Due.says(22, "IndexOutOfBoundsException: there is no such MATCH");
            Due.bounds("odds(none)", () -> x.odds(none));
            Due.says(29, "IndexOutOfBoundsException: there is no such MATCH (told first)");
            Due.bounds("gifts(none, 1, 0)", () -> x.gifts(none, 1, 0));
            Due.bounds("gifts(none, 0, 10)", () -> x.gifts(none, 0, 10));
        }
    }

    private static void over() {
        RivalWeds x = happy(50, 60, "lift 9");
        x.part(0);
        Due.says(19, "0 if it is OVER");
        Due.due("next", x.next(0, 0), 0);
        Due.says(20, "0 if it is OVER");
        Due.due("ahead", x.ahead(0, 3, 0), 0);
        Due.due("ahead by none", x.ahead(0, 0, 0), 0);
        Due.says(21, "NONE (also, if it is OVER)");
        Due.due("first", x.first(0, 0), -1);
        Due.says(22, "0 if it is OVER");
        Due.due("odds", x.odds(0), 0);
        Due.says(29, "NONE (also, if it is OVER)");
        Due.due("gifts", x.gifts(0, 1, 0), -1);
        Due.town(x, "bar 0");
        Due.due("gifts, though none were needed", x.gifts(0, 1, 0), -1);
    }

    private static void nothingStays() {
        RivalWeds x = Due.townOf("person 60;person 60;person 5;asked 2 0;wed 0 1 happy 50");
        x.months(2);
        String ahead = Seen.of(x);
        Due.says(19, "nothing paid: nothing stays");
        x.next(0, 9);
        Due.same("next", Seen.of(x), ahead);
        Due.says(20, "nothing paid, nobody RUINED: nothing stays");
        x.ahead(0, 40, 9);
        Due.same("ahead", Seen.of(x), ahead);
        Due.says(22, "it would be: nothing stays");
        x.odds(0);
        x.first(0, 9);
        Due.same("odds, first", Seen.of(x), ahead);
        Due.says(29, "GIFTS that are none: nothing stays");
        x.gifts(0, 20, 9);
        Due.same("gifts", Seen.of(x), ahead);
    }
}
