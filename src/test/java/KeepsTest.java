/** Promises 42 to 45: acts undone, the image, counts. */
final class KeepsTest {
    public static void main(String[] args) {
        undo();
        twelve();
        forgotten();
        image();
        count();
        Due.close("KeepsTest");
    }

    private static void undo() {
        RivalWeds x = Due.townOf(Due.FIVE);
        Due.due("nothing yet", x.undo(), false);
        Due.town(x, "bar 99");
        x.seed(9);
        x.ask(0, 1);
        x.gift(3, 0);
        x.meddle(2, 0);
        x.reinsure(2, 4);
        x.wed(2, 4);
        Due.due("claims", x.months(5), 10);
        x.part(1);
        Due.due("acts", x.count(14), 7);
        Due.due("part", x.undo(), true);
        Due.due("goes on", x.match(1, 4), 0);
        Due.due("5 months", x.undo(), true);
        Due.due("month", x.count(4), 0);
        Due.due("quarrel", x.count(5), 0);
        Due.due("months of the match", x.match(0, 3), 0);
        Due.due("claims", x.count(12), 0);
        Due.due("rows", x.count(13), 0);
        Due.due("log", x.log(0, 0), -1);
        Due.due("seed", x.seed(9), 9);
        Due.due("wed", x.undo(), true);
        Due.due("matches", x.count(1), 1);
        Due.due("not wed", x.person(2, 5), -1);
        Due.due("reinsure", x.undo(), true);
        Due.due("reinsurer", x.person(2, 3), 3);
        Due.due("meddle", x.undo(), true);
        Due.due("happy", x.match(0, 2), 30);
        Due.due("gift", x.undo(), true);
        Due.due("happy", x.match(0, 2), 25);
        Due.due("wealth", x.person(3, 0), 50);
        Due.due("ask", x.undo(), true);
        Due.due("asked", x.person(0, 1), 0);
        Due.due("no more", x.undo(), false);
        x.feed(1, 1, 1, 1, 1);
        Due.due("an act", x.ask(0, 1), true);
        x.feed(1, 1, 1, 1, 1);
        x.undo();
        Due.due("the tape stays", x.end(40), true);
        x.ask(0, 1);
        Due.argument("a wrong text", () -> x.law());
        Due.due("undone", x.undo(), true);
        Due.due("its fault stays", x.fault(), 0);
    }

    private static void twelve() {
        RivalWeds x = Due.townOf("person 1;person 1");
        for (int i = 1; i <= 15; i++) {
            x.months(i);
            Due.due("remembered", x.count(14), Math.min(12, i));
        }
        Due.due("month", x.count(4), 120);
        int month = 120;
        for (int i = 15; i > 3; i--) {
            Due.due("undone", x.undo(), true);
            month -= i;
            Due.due("month", x.count(4), month);
        }
        Due.due("the first three are remembered no more", x.undo(), false);
        Due.due("month", x.count(4), 6);
        for (int i = 0; i < 12; i++) {
            x.ask(0, 1);
        }
        x.undo();
        x.undo();
        x.months(2);
        Due.due("eleven", x.count(14), 11);
        x.months(2);
        x.months(2);
        Due.due("twelve", x.count(14), 12);
        for (int i = 0; i < 3; i++) {
            x.undo();
        }
        Due.due("month", x.count(4), 6);
        Due.due("nine", x.count(14), 9);
    }

    private static void forgotten() {
        RivalWeds x = Due.townOf("person 1;person 1");
        x.ask(0, 1);
        Due.tape(x, "bar 100");
        Due.argument("a refused text", () -> x.town());
        Due.due("leaves them", x.count(14), 1);
        Due.tape(x, "bar 10");
        Due.argument("also of the law", () -> x.law());
        Due.due("leaves them", x.count(14), 1);
        Due.town(x, "");
        Due.due("a taken one not", x.count(14), 0);
        Due.due("nothing to undo", x.undo(), false);
        Due.due("what was done stays", x.person(0, 1), 2);
        x.ask(0, 1);
        Due.law(x, "");
        Due.due("nor one of the law", x.undo(), false);
        for (int i = 3; i <= 12; i++) {
            Due.town(x, "");
        }
        x.ask(1, 0);
        Due.tape(x, "");
        Due.unsupported("the thirteenth", () -> x.town());
        Due.due("is refused", x.undo(), true);
    }

    private static void image() {
        RivalWeds x = Due.townOf(Due.FIVE);
        Due.due("none kept", x.back(), false);
        Due.law(x, "sour 6");
        x.seed(77);
        x.months(1);
        x.image();
        Due.due("acts stay", x.count(14), 1);
        Due.due("rows", x.count(13), 1);
        int wealth = x.person(2, 0);
        int seed = x.seed(5);
        x.seed(seed);
        Due.law(x, "lift 30;lift 1");
        Due.town(x, "person 7;bar 1;premium 2;pays 3;likes 0 012345");
        x.months(5);
        x.part(0);
        Due.due("acts", x.count(14), 2);
        x.feed(0x62617220, 0x78000000, 0, 0, 0);
        x.end(5);
        Due.argument("wrong", () -> x.town());
        x.feed(0, 0, 0, 0, 0);
        Due.due("back", x.back(), true);
        Due.due("the fault stays", x.fault(), 4);
        Due.due("the tape stays", x.feed(0, 0, 0, 0, 0), 40);
        Due.due("people", x.count(0), 5);
        Due.due("texts", x.count(2), 1);
        Due.due("law", x.count(3), 1);
        Due.due("month", x.count(4), 1);
        Due.due("bar", x.count(6), 20);
        Due.due("premium", x.count(7), 1);
        Due.due("pays", x.count(8), 10);
        Due.due("rows", x.count(13), 1);
        Due.due("no acts", x.count(14), 0);
        Due.due("nothing to undo", x.undo(), false);
        Due.due("wealth", x.person(2, 0), wealth);
        Due.due("liking", x.liking(0, 1), 9);
        Due.due("it turns", x.match(0, 6), -6);
        Due.due("seed", x.seed(1), seed);
        x.ask(0, 3);
        Due.due("again", x.back(), true);
        Due.due("not asked", x.person(0, 1), 0);
        x.ask(0, 3);
        x.image();
        x.undo();
        Due.due("undone", x.person(0, 1), 0);
        Due.due("back to the new one", x.back(), true);
        Due.due("asked", x.person(0, 1), 8);
    }

    private static void count() {
        RivalWeds x = Due.townOf(Due.FIVE);
        Due.town(x, "bar 99;premium 2;pays 20");
        int[] due = {5, 1, 2, -1, 0, 0, 99, 2, 20, 193, 0, 3, 0, 0, 0};
        for (int what = 0; what < due.length; what++) {
            Due.due("count(" + what + ")", x.count(what), due[what]);
        }
        Due.due("count(15)", x.count(15), -1);
        Due.due("count(-1)", x.count(-1), -1);
        Due.law(x, "lift 1;sour 2");
        x.months(2);
        // premiums of the first: 0 100-6, 2 10, 3 52, 4 7; claim: 3 gives 10 to 2 who pays 20 and has 0, 3 (42) pays 20
        // and has 22, 2 gives 4 none and is ruined, 4 pays 7 of 20 and is ruined: 47 paid, 23 and 24 had.
        // the second: 3 alone insures not: a claim without insurers.
        int[] then = {5, 1, 2, 2, 2, 8, 99, 2, 20, 193, 20, 3, 2, 2, 1};
        for (int what = 0; what < then.length; what++) {
            Due.due("then count(" + what + ")", x.count(what), then[what]);
        }
        Due.due("wealth", x.person(0, 0), 117);
        Due.due("wealth", x.person(1, 0), 54);
    }
}
