/** Promises 16 and 37 to 41: months, trials, spans, the log and the seed. */
final class MonthsTest {
    private static final String CLAIMING = "person 7;person 2;person 20;person 9;person 30;asked 2 0;asked 3 1;"
            + "reinsured 2 4;reinsured 3 2;premium 3;pays 21;bar 60;wed 0 1 happy 55;likes 0 05000";

    public static void main(String[] args) {
        quiet();
        claiming();
        premiums();
        ruinWithinAClaim();
        halves();
        wealthMost();
        over();
        lawSeesTheMonth();
        order();
        wrongNumbers();
        trialAndSpan();
        logWraps();
        monthMost();
        seed();
        Due.close("MonthsTest");
    }

    private static void wealth(RivalWeds x, int... due) {
        for (int p = 0; p < due.length; p++) {
            Due.due("wealth of " + p + " in month " + x.count(4), x.person(p, 0), due[p]);
        }
    }

    private static void quiet() {
        RivalWeds x = Due.townOf(Due.FIVE);
        int[] quarrels = {8, 8, 3, 5, 1};
        int[] happy = {30, 35, 45, 53, 65};
        for (int i = 0; i < 5; i++) {
            Due.due("claims", x.months(1), 0);
            Due.due("quarrel", x.count(5), quarrels[i]);
            Due.due("happy", x.match(0, 2), happy[i]);
            Due.due("month", x.count(4), i + 1);
        }
        wealth(x, 85, 30, 13, 55, 10);
        RivalWeds y = Due.townOf(Due.FIVE);
        Due.due("five at once", y.months(5), 0);
        wealth(y, 85, 30, 13, 55, 10);
        Due.due("happy", y.match(0, 2), 65);
        Due.due("months", y.match(0, 3), 5);
        Due.due("no rows", y.count(13), 0);
    }

    private static void claiming() {
        RivalWeds x = Due.townOf(CLAIMING);
        Due.due("a claim", x.months(1), 1);
        wealth(x, 22, 23, 2, 1, 20);
        Due.due("nobody is ruined", x.count(10), 0);
        Due.due("happy", x.match(0, 2), 52);
        log(x, 0, 0, 42, 12);
        Due.due("a claim", x.months(1), 1);
        wealth(x, 25, 33, 0, 0, 10);
        Due.due("ruined", x.count(10), 12);
        log(x, 1, 0, 19, 12);
        Due.due("a claim without insurers", x.months(1), 1);
        wealth(x, 25, 33, 0, 0, 10);
        log(x, 2, 0, 0, 0);
        Due.due("rows", x.count(13), 3);
        Due.due("claims", x.count(12), 3);
        Due.due("led", x.led(0, false), 3);
        Due.due("led paid", x.led(0, true), 61);
        Due.due("log 2 ago", x.log(2, 2), 42);
        Due.due("log 3 ago", x.log(3, 2), -1);
        Due.due("log -1 ago", x.log(-1, 2), -1);
        Due.element("log(0, 4)", () -> x.log(0, 4));
        Due.element("log(9, -1)", () -> x.log(9, -1));
        Due.bounds("led(1, true)", () -> x.led(1, true));
        Due.bounds("led(-1, false)", () -> x.led(-1, false));
        RivalWeds y = Due.townOf(CLAIMING);
        Due.due("three claims at once", y.months(3), 3);
        wealth(y, 25, 33, 0, 0, 10);
    }

    private static void log(RivalWeds x, int... due) {
        for (int what = 0; what < 4; what++) {
            Due.due("log(0, " + what + ")", x.log(0, what), due[what]);
        }
    }

    private static void premiums() {
        RivalWeds x = Due.townOf("person 3;person 4;person 1;person 1;person 1;asked 2 0;asked 3 0;asked 4 1;"
                + "premium 5;bar 0;wed 1 0 happy 99");
        x.months(1);
        wealth(x, 0, 0, 6, 3, 1);
        Due.due("they are not ruined by it", x.count(10), 0);
        RivalWeds y = Due.townOf("person 30;person 4;person 998;person 1;asked 2 0;asked 3 0;premium 20;bar 0;wed 0 1 happy 99");
        y.months(1);
        wealth(y, 0, 0, 999, 15);
        RivalWeds z = Due.townOf("person 3;person 3;person 9;person 9;asked 0 2;asked 1 3;premium 2;bar 0;wed 3 2 happy 99");
        z.months(1);
        wealth(z, 5, 5, 9, 5);
    }

    private static void ruinWithinAClaim() {
        RivalWeds x = Due.townOf("person 0;person 0;person 30;person 4;person 50;asked 2 0;asked 3 0;reinsured 2 3;"
                + "reinsured 3 4;pays 20;bar 50;premium 0;wed 0 1 happy 40");
        Due.due("claims", x.months(1), 1);
        wealth(x, 15, 15, 14, 0, 40);
        Due.due("ruined", x.count(10), 8);
        log(x, 0, 0, 30, 12);
    }

    private static void halves() {
        RivalWeds x = Due.townOf("person 0;person 0;person 1;person 1;person 0;asked 2 0;asked 3 0;reinsured 2 4;"
                + "pays 1;bar 50;premium 0;wed 0 1 happy 40");
        x.months(1);
        wealth(x, 1, 1, 0, 0, 0);
        Due.due("half of 1 ruins nobody, nor does 1 of 1", x.count(10), 0);
        RivalWeds y = Due.townOf("person 0;person 0;person 4;person 3;person 9;asked 2 1;asked 3 0;reinsured 2 4;"
                + "pays 7;bar 50;premium 0;wed 1 0 happy 40");
        y.months(1);
        wealth(y, 5, 5, 0, 0, 6);
        Due.due("3 gives 3 and has less", y.count(10), 8);
        RivalWeds z = Due.townOf("person 0;person 0;person 6;person 9;person 3;asked 2 1;asked 3 0;reinsured 2 4;"
                + "pays 9;bar 50;premium 0;wed 1 0 happy 40");
        z.months(1);
        wealth(z, 9, 9, 0, 0, 0);
        Due.due("4 gives 3 of 4 and is ruined", z.count(10), 16);
        RivalWeds odd = Due.townOf("person 0;person 0;person 6;person 9;asked 2 1;asked 3 0;pays 7;bar 50;premium 0;wed 1 0 happy 40");
        odd.months(1);
        wealth(odd, 7, 6, 0, 2);
        Due.due("6 of 7", odd.count(10), 4);
    }

    private static void wealthMost() {
        RivalWeds x = Due.townOf("person 990;person 5;person 999;person 100;person 99;asked 2 1;asked 3 0;reinsured 2 4;"
                + "pays 60;bar 99;premium 0;wed 0 1 happy 40");
        x.months(1);
        wealth(x, 999, 65, 939, 40, 69);
        Due.due("what is above is gone", x.count(9), 2112);
        log(x, 0, 0, 120, 12);
    }

    private static void over() {
        RivalWeds x = Due.townOf("person 9;person 9;person 9;person 9;asked 2 0;asked 3 1;bar 5;pays 4;premium 0;wed 0 1 happy 7");
        Due.due("a claim", x.months(1), 1);
        Due.due("happy", x.match(0, 2), 0);
        Due.due("over", x.match(0, 4), 1);
        Due.due("its month counts", x.match(0, 3), 1);
        wealth(x, 13, 13, 5, 5);
        Due.due("no more", x.months(5), 0);
        Due.due("nobody is wed", x.count(11), 0);
        RivalWeds y = Due.townOf("person 9;person 9;bar 0;wed 0 1 happy 7");
        Due.due("0 is not below 0", y.months(1), 0);
        Due.due("over all the same", y.match(0, 4), 1);
        RivalWeds z = Due.townOf("person 9;person 9;bar 1;wed 0 1 happy 0;likes 0 09");
        Due.due("from 0 it turns too", z.months(1), 0);
        Due.due("happy", z.match(0, 2), 1);
        Due.due("it goes on", z.match(0, 4), 0);
        RivalWeds v = Due.townOf("person 9;person 9;bar 50;wed 0 1 happy 50;likes 0 08");
        Due.due("the bar itself is no claim", v.months(1), 0);
        RivalWeds w = Due.townOf("person 9;person 9;wed 0 1 happy 95;likes 0 09;likes 1 90");
        w.months(1);
        Due.due("99 at most", w.match(0, 2), 99);
    }

    private static void lawSeesTheMonth() {
        RivalWeds x = Due.townOf("person 98;person 2;person 1;person 1;asked 2 0;asked 3 0;premium 1;bar 0;wed 0 1 happy 50");
        Due.law(x, "sour 1 if rich;lift 2 if months < 1;lift 4 if month < 1;lift 8 if quarrel > 7 and quarrel < 9;"
                + "lift 16 if insurers > 1");
        x.months(1);
        Due.due("wealth behind the premiums, months ahead of it", x.match(0, 2), 80);
        Due.due("now the second month is looked at", x.match(0, 6), 24);
        RivalWeds y = Due.townOf("person 98;person 2;person 1;person 1;asked 2 0;premium 1;bar 0;wed 0 1 happy 50");
        Due.law(y, "sour 1 if rich;lift 16 if insured");
        y.months(1);
        Due.due("one insurer is none", y.match(0, 2), 49);
        Due.law(y, "lift 1 if month > 10");
        y.months(10);
        Due.due("to month 11", y.match(0, 2), 49);
        y.months(2);
        Due.due("month 12 is 0", y.match(0, 2), 50);
        y.months(60);
        Due.due("five years", y.match(0, 2), 55);
    }

    private static void order() {
        RivalWeds x = Due.townOf("person 2;person 0;person 6;person 0;person 0;asked 2 0;asked 3 0;asked 0 2;asked 4 2;"
                + "pays 8;bar 99;premium 1;wed 0 1 happy 50;wed 2 3 happy 60");
        Due.due("two claims", x.months(1), 2);
        // match 0: 2 and 3 have 1 each (7, 1), pay 7 and 1: both ruined; 0 and 1 have 4 each.
        // match 1: 0 and 4 insure it, of 2 and 3 who have nothing: 0 pays 4 and is ruined, 4 pays nothing.
        wealth(x, 0, 4, 2, 2, 0);
        Due.due("ruined", x.count(10), 29);
        log(x, 0, 1, 4, 17);
        Due.due("the one before", x.log(1, 2), 8);
        Due.due("its match", x.log(1, 1), 0);
        Due.due("its insurers", x.log(1, 3), 12);
        Due.due("led 1", x.led(1, true), 4);
        Due.due("led 0", x.led(0, true), 8);
    }

    private static void wrongNumbers() {
        RivalWeds x = Due.townOf(Due.FIVE);
        Due.argument("months(0)", () -> x.months(0));
        Due.argument("months(61)", () -> x.months(61));
        Due.argument("months(-1)", () -> x.months(-1));
        Due.due("nothing went", x.count(4), 0);
        Due.due("60", x.months(60), 0);
        Due.due("month", x.count(4), 60);
        Due.argument("trial(-1)", () -> x.trial(-1, false));
        Due.argument("trial(41)", () -> x.trial(41, true));
        Due.argument("span(-1)", () -> x.span(-1, false));
        Due.argument("span(41)", () -> x.span(41, true));
    }

    private static void trialAndSpan() {
        RivalWeds x = Due.townOf(CLAIMING);
        Due.due("trial of none", x.trial(0, false), 0);
        Due.due("ruined by none", x.trial(0, true), 0);
        Due.due("trial of 1", x.trial(1, false), 1);
        Due.due("nobody ruined", x.trial(1, true), 0);
        Due.due("trial of 3", x.trial(3, false), 3);
        Due.due("two ruined", x.trial(3, true), 12);
        Due.due("nothing stays", x.count(12) + x.count(4) + x.count(5) + x.count(10) + x.count(13) + x.count(14), 0);
        wealth(x, 7, 2, 20, 9, 30);
        Due.due("nor the seed", x.seed(1), 1);
        x.months(2);
        Due.due("those ruined before count", x.trial(0, true), 12);
        Due.due("claims of the trial alone", x.trial(2, false), 2);
        RivalWeds y = Due.townOf("person 9;person 9;bar 50;wed 0 1 happy 50;likes 0 05");
        int[] quarrels = {8, 8, 7, 7, 5, 6};
        for (int seed = 1; seed <= 6; seed++) {
            y.seed(seed);
            Due.due("trial from seed " + seed, y.trial(1, false), quarrels[seed - 1] > 5 ? 1 : 0);
            y.months(1);
            Due.due("quarrel from seed " + seed, y.count(5), quarrels[seed - 1]);
            y.undo();
        }
        Due.due("the fewest", y.span(1, false), 0);
        Due.due("the most", y.span(1, true), 1);
        Due.due("span of none", y.span(0, true), 0);
        Due.due("the seed stays", y.seed(1), 6);
        RivalWeds z = Due.townOf("person 9;person 9;bar 50;wed 0 1 happy 50");
        Due.law(z, "sour 10 if quarrel > 5 and quarrel < 7");
        Due.due("seed 6 alone", z.span(1, true), 1);
        Due.due("the others not", z.span(1, false), 0);
        Due.law(z, "sour 10 if quarrel > 4");
        Due.due("all six (the seventh not)", z.span(1, false), 1);
        Due.law(z, "sour 10 if months > 0 and quarrel > 7");
        Due.due("seed 1 alone", z.span(2, true), 1);
        Due.law(z, "sour 10 if months > 1 and quarrel > 8");
        Due.due("seed 2 alone", z.span(3, true), 1);
        Due.law(z, "sour 10 if quarrel < 5");
        Due.due("nobody by one month", z.span(1, true), 0);
        Due.due("of many months", z.span(40, false) <= z.span(40, true), true);
    }

    private static void logWraps() {
        RivalWeds x = Due.townOf("person 9;person 9;person 9;person 9;bar 99;wed 0 1 happy 90;wed 2 3 happy 90");
        Due.law(x, "lift 0");
        Due.due("claims of both", x.months(40), 80);
        Due.due("claims", x.count(12), 80);
        Due.due("rows", x.count(13), 60);
        Due.due("latest", x.log(0, 1), 1);
        Due.due("latest month", x.log(0, 0), 39);
        Due.due("oldest", x.log(59, 1), 0);
        Due.due("oldest month", x.log(59, 0), 10);
        Due.due("none before", x.log(60, 0), -1);
        Due.due("led by the log alone", x.led(0, false), 30);
        x.part(1);
        x.months(40);
        Due.due("led 1", x.led(1, false), 10);
        Due.due("led 0", x.led(0, false), 50);
        x.undo();
        Due.due("undone", x.led(1, false), 30);
        Due.due("undone rows", x.log(59, 0), 10);
    }

    private static void monthMost() {
        RivalWeds x = Due.townOf("person 9;person 9;bar 0;wed 0 1 happy 90");
        Due.law(x, "lift 0");
        for (int i = 0; i < 168; i++) {
            x.months(60);
        }
        Due.due("9999 at most", x.count(4), 9999);
        Due.due("the match goes on", x.match(0, 3), 10080);
        Due.law(x, "lift 1 if month > 2;lift 2 if month < 4;lift 4 if months > 999 + 999 + 999 + 999 + 999");
        Due.due("9999 is 3 modulo 12", x.match(0, 6), 7);
        Due.due("ahead it stays there", x.ahead(0, 1, 0), 97);
        Due.law(x, "lift 1 if month > 2 and month < 4");
        Due.due("each month", x.ahead(0, 5, 0), 95);
    }

    private static void seed() {
        RivalWeds x = Due.townOf("person 9;person 9");
        Due.due("seed", x.seed(-5), 1);
        Due.due("no act", x.count(14), 0);
        x.months(1);
        Due.due("it goes round", x.seed(0), -5 * 1103515245 + 12345);
        x.months(1);
        Due.due("12345 >> 16 is 0", x.count(5), 0);
        x.undo();
        Due.due("undone it is as ahead of it", x.seed(3), 0);
        x.undo();
        Due.due("also of those told since", x.seed(3), -5);
    }
}
