/** The edges that the document names for promises 42 to 45: acts undone, the image, counts. */
final class EdgesOfKeeps {
    private static final String TOWN = "person 90;person 20;person 30;person 5;person 60;asked 2 0;asked 3 1;asked 4 0;"
            + "reinsured 3 4;pays 20;bar 60;likes 0 05000;wed 0 1 happy 55";

    private static final Act[] ACTS = {x -> x.ask(1, 2), x -> x.ask(2, 0), x -> x.wed(2, 3), x -> x.gift(2, 0), x -> x.meddle(4, 0),
        x -> x.reinsure(2, 4), x -> x.reinsure(2, -1), x -> x.part(0), x -> x.months(1), x -> x.months(60)};

    private interface Act {
        void on(RivalWeds x);
    }

    private EdgesOfKeeps() {
    }

    static void run() {
        eachAct();
        noActs();
        twelve();
        undone();
        forgotten();
        seedAndUndo();
        image();
        goneBack();
        back();
        counts();
        countEdges();
    }

    private static void eachAct() {
        Due.says(42, "all is as ahead of it: each of the ACTS (each also if it changes nothing)");
        for (int i = 0; i < ACTS.length; i++) {
            RivalWeds x = Due.townOf(TOWN);
            String ahead = Seen.of(x);
            ACTS[i].on(x);
            Due.due("act " + i + " can be undone", x.count(14), 1);
            Due.due("there was one", x.undo(), true);
            Due.same("act " + i + " undone", Seen.of(x), ahead);
            Due.due("there is none", x.undo(), false);
            Due.same("nothing is undone by that", Seen.of(x), ahead);
        }
        Due.says(42, "MONTHS of one call are one");
        RivalWeds x = Due.townOf(TOWN);
        x.months(3);
        x.months(2);
        Due.due("two", x.count(14), 2);
        x.undo();
        Due.due("month", x.count(4), 3);
        x.undo();
        Due.due("month", x.count(4), 0);
    }

    private static void noActs() {
        Due.says(42, "ACTS alone: what only looks, SEED, THE IMAGE, the TAPE are none");
        RivalWeds x = Due.townOf(TOWN);
        Seen.of(x);
        x.seed(5);
        x.image();
        x.feed(0, 0, 0, 0, 0);
        x.end(3);
        x.anniversary(true);
        x.dance();
        x.trial(3, true);
        x.span(3, true);
        x.falls();
        x.holds(2);
        x.gifts(0, 3, 3);
        x.steady(-1);
        Due.due("none", x.count(14), 0);
        Due.due("undo", x.undo(), false);
        Due.says(42, "an ACT that is refused is none");
        Due.argument("ask", () -> x.ask(0, 0) ? 1 : 0);
        Due.state("wed", () -> x.wed(0, 2));
        Due.state("gift", () -> x.gift(0, 0));
        Due.state("meddle", () -> x.meddle(0, 0));
        Due.argument("reinsure", () -> x.reinsure(0, 0));
        Due.bounds("part", () -> x.part(1));
        Due.argument("months", () -> x.months(0));
        Due.due("none", x.count(14), 0);
        Due.due("a new object has none", new RivalWeds().undo(), false);
    }

    private static void twelve() {
        Due.says(42, "the latest ACT not undone yet (12 are remembered)");
        RivalWeds x = Due.townOf(TOWN);
        for (int i = 1; i <= 12; i++) {
            x.months(i);
            Due.due("acts", x.count(14), i);
        }
        for (int i = 12; i >= 1; i--) {
            Due.due("undo", x.undo(), true);
            Due.due("month", x.count(4), i * (i - 1) / 2);
            Due.due("acts", x.count(14), i - 1);
        }
        Due.due("no more", x.undo(), false);
        Due.says(42, "an ACT that went as the thirteenth came is remembered no more");
        for (int i = 1; i <= 13; i++) {
            x.months(1);
        }
        Due.due("12", x.count(14), 12);
        for (int i = 0; i < 12; i++) {
            Due.due("undo", x.undo(), true);
        }
        Due.due("the first stands", x.count(4), 1);
        Due.due("it is not undone", x.undo(), false);
        Due.due("month", x.count(4), 1);
        Due.says(42, "an ACT that went stays gone, though others are undone since");
        for (int i = 1; i <= 13; i++) {
            x.months(1);
        }
        x.undo();
        x.undo();
        Due.due("10", x.count(14), 10);
        x.ask(0, 1);
        x.ask(0, 1);
        Due.due("12 again", x.count(14), 12);
        x.ask(0, 1);
        Due.due("12 still", x.count(14), 12);
        for (int i = 0; i < 12; i++) {
            Due.due("undo", x.undo(), true);
        }
        Due.due("no more", x.undo(), false);
        Due.due("1, and 2 that went", x.count(4), 3);
    }

    private static void undone() {
        Due.says(42, "all is as ahead of it (but for the TAPE, fault(), THE IMAGE)");
        RivalWeds x = Due.townOf(TOWN);
        x.months(2);
        x.image();
        String imaged = Seen.of(x);
        x.ask(1, 2);
        Due.tape(x, "bar x");
        Due.argument("bar x", () -> x.town());
        Due.tape(x, "bar 7");
        x.undo();
        x.undo();
        Due.due("the fault", x.fault(), 4);
        Due.due("the tape", x.end(6), false);
        Due.due("bar 7 is read", x.town(), 2);
        Due.due("bar", x.count(6), 7);
        Due.due("the image", x.back(), true);
        Due.due("month", x.count(4), 2);
        Due.same("but for the acts", Seen.of(x), imaged.replaceFirst("1\nperson", "0\nperson"));
        fullLog();
        Due.says(42, "the latest ACT not undone yet: what is undone is not undone again");
        RivalWeds y = Due.townOf(TOWN);
        y.months(1);
        y.months(2);
        y.undo();
        y.months(4);
        Due.due("month", y.count(4), 5);
        y.undo();
        Due.due("month", y.count(4), 1);
        y.undo();
        Due.due("month", y.count(4), 0);
        Due.due("no more", y.undo(), false);
    }

    private static void fullLog() {
        Due.says(42, "all is as ahead of it: the rows of THE LOG that others came in place of");
        RivalWeds x = Due.townOf("person 9;person 9;bar 99;wed 0 1 happy 50");
        Due.law(x, "lift 0");
        x.months(60);
        x.months(7);
        Due.due("the oldest", x.log(59, 0), 7);
        x.undo();
        Due.due("the oldest", x.log(59, 0), 0);
        Due.due("the latest", x.log(0, 0), 59);
        x.trial(40, false);
        Due.due("a trial leaves it", x.log(59, 0), 0);
        Due.says(44, "all is gone back to: the rows of THE LOG, too");
        x.image();
        x.months(7);
        x.back();
        Due.due("the oldest", x.log(59, 0), 0);
        Due.due("the latest", x.log(0, 0), 59);
    }

    private static void forgotten() {
        Due.says(42, "A text of THE TOWN or of THE LAW that is taken, going back: none are remembered");
        RivalWeds x = Due.townOf(TOWN);
        x.ask(0, 2);
        x.ask(0, 3);
        Due.town(x, "");
        Due.due("a town", x.count(14), 0);
        Due.due("undo", x.undo(), false);
        Due.due("they stand", x.person(0, 1), 12);
        x.ask(0, 4);
        Due.law(x, "");
        Due.due("a law", x.count(14), 0);
        Due.due("undo", x.undo(), false);
        Due.due("it stands", x.person(0, 1), 28);
        x.image();
        x.ask(0, 1);
        x.back();
        Due.due("going back", x.count(14), 0);
        Due.due("undo", x.undo(), false);
        Due.due("as in the image", x.person(0, 1), 28);
        Due.says(42, "(a refused text leaves them)");
        RivalWeds y = Due.townOf(TOWN);
        y.ask(0, 2);
        Due.tape(y, "bar 7;bar");
        Due.argument("a wrong town", () -> y.town());
        Due.tape(y, "lift 7;lift");
        Due.argument("a wrong law", () -> y.law());
        Due.due("one", y.count(14), 1);
        for (int i = 2; i <= 12; i++) {
            Due.town(y, "");
        }
        y.ask(0, 3);
        Due.unsupported("a thirteenth town", () -> y.town());
        Due.due("one", y.count(14), 1);
        Due.due("undo", y.undo(), true);
        Due.due("0 had not asked 3", y.person(0, 1), 4);
        Due.says(42, "going back to no IMAGE is none");
        y.ask(0, 3);
        Due.due("back", y.back(), false);
        Due.due("one", y.count(14), 1);
    }

    private static void seedAndUndo() {
        Due.says(42, "all is as ahead of it: SEED, too");
        RivalWeds x = Due.townOf(TOWN);
        x.seed(7);
        x.months(1);
        Due.due("it went on", x.seed(9), 7 * 1103515245 + 12345);
        x.undo();
        Due.due("as ahead of the month", x.seed(7), 7);
        x.ask(0, 1);
        x.seed(8);
        x.undo();
        Due.due("as ahead of who asked", x.seed(7), 7);
    }

    private static void image() {
        Due.says(43, "THE IMAGE is kept; (one)");
        RivalWeds x = Due.townOf(TOWN);
        x.image();
        x.months(1);
        x.image();
        x.months(1);
        Due.due("back", x.back(), true);
        Due.due("to the latest", x.count(4), 1);
        x.months(1);
        Due.due("back again", x.back(), true);
        Due.due("it is kept still", x.count(4), 1);
        Due.says(43, "it is kept: nothing is another by that");
        x.months(2);
        String ahead = Seen.of(x);
        x.image();
        Due.same("as it was, acts, too", Seen.of(x), ahead);
        Due.due("an act ahead of it can be undone", x.undo(), true);
        Due.due("month", x.count(4), 1);
        Due.due("back", x.back(), true);
        Due.due("month", x.count(4), 3);
        Due.says(43, "of all: a town without PEOPLE, too");
        RivalWeds y = new RivalWeds();
        y.image();
        Due.town(y, TOWN);
        Due.law(y, "lift 1");
        y.months(3);
        Due.due("back", y.back(), true);
        Due.same("new", Seen.of(y), Seen.of(new RivalWeds()));
        Due.town(y, "person 0;person 0");
        Due.due("who come then have no likings", y.liking(0, 1), 0);
        Due.due("nor asked anybody", y.person(0, 1), 0);
        Due.due("nor have a reinsurer", y.person(1, 3), -1);
    }

    private static void goneBack() {
        Due.says(44, "THE IMAGE of all is gone back to");
        RivalWeds x = Due.townOf(TOWN);
        Due.law(x, "sour 2 if happy > 0;lift 1");
        x.seed(77);
        x.months(3);
        Due.law(x, "sour 2 if happy > 0;lift 1");
        String kept = Seen.of(x);
        x.image();
        Due.law(x, "lift 30");
        Due.town(x, "person 7;bar 1;premium 2;pays 3;likes 1 500000;reinsured 0 1");
        x.part(0);
        x.wed(0, 5);
        x.ask(5, 2);
        x.months(40);
        x.seed(5);
        Due.due("back", x.back(), true);
        Due.same("all", Seen.of(x), kept);
        Due.due("it turns by the law that was", x.match(0, 6), -1);
        Due.says(44, "without THE LAW, if there was none");
        RivalWeds y = Due.townOf(TOWN);
        y.image();
        Due.law(y, "lift 1");
        y.back();
        Due.due("none", y.count(3), -1);
        Due.due("its liking", y.match(0, 6), 5);
    }

    private static void back() {
        Due.says(44, "true; false, and nothing happens, if none was kept");
        RivalWeds x = Due.townOf(TOWN);
        x.months(1);
        String ahead = Seen.of(x);
        Due.due("back", x.back(), false);
        Due.same("as it was", Seen.of(x), ahead);
        x.image();
        Due.due("back", x.back(), true);
        Due.says(44, "(but for the TAPE, fault() and THE IMAGE itself)");
        Due.tape(x, "lift");
        Due.argument("lift", () -> x.law());
        Due.tape(x, "bar 7");
        x.back();
        Due.due("the fault", x.fault(), 4);
        Due.due("the tape has 5", x.end(6), false);
        Due.due("bar 7", x.town(), 2);
        Due.due("bar", x.count(6), 7);
        Due.due("the image", x.back(), true);
        Due.due("bar", x.count(6), 60);
        Due.due("texts as there were", x.count(2), 1);
    }

    private static void counts() {
        Due.says(45, "0 PEOPLE, 1 MATCHES (those that are OVER, too), 2 texts of THE TOWN");
        RivalWeds x = Due.townOf(TOWN);
        Due.due("people", x.count(0), 5);
        x.part(0);
        Due.due("matches", x.count(1), 1);
        x.wed(2, 4);
        Due.due("matches", x.count(1), 2);
        Due.town(x, "");
        Due.tape(x, "bar");
        Due.argument("a wrong one", () -> x.town());
        Due.due("texts", x.count(2), 2);
        Due.says(45, "3 LINES of THE LAW (NONE without one)");
        Due.due("without", x.count(3), -1);
        Due.law(x, "lift 1;lift 2");
        Due.due("two", x.count(3), 2);
        Due.law(x, " ");
        Due.due("a law without lines", x.count(3), 0);
        Due.says(45, "4 MONTH, 5 QUARREL, 6 BAR, 7 PREMIUM, 8 PAYS");
        x.months(3);
        Due.due("month", x.count(4), 3);
        Due.due("the latest of 8, 8, 3", x.count(5), 3);
        Due.due("bar", x.count(6), 60);
        Due.due("premium", x.count(7), 1);
        Due.due("pays", x.count(8), 20);
        Due.says(45, "11 WED ones, as bits");
        Due.due("2 and 4", x.count(11), 20);
        x.wed(0, 3);
        Due.due("all but 1", x.count(11), 29);
        x.part(1);
        Due.due("0 and 3", x.count(11), 9);
        Due.says(45, "14 acts that can be UNDONE");
        Due.due("months, wed, part", x.count(14), 3);
        x.undo();
        Due.due("months, wed", x.count(14), 2);
    }

    private static void countEdges() {
        Due.says(45, "9 WEALTH of all together, 10 RUINED ones, as bits");
        RivalWeds x = Due.townOf("person 999;person 999;person 999;person 999;person 999;person 999;person 999;person 999");
        Due.due("all that can be", x.count(9), 7992);
        Due.due("nobody", x.count(10), 0);
        RivalWeds y = Due.townOf("person 5;person 0;person 3;person 9;asked 2 0;asked 3 1;bar 99;pays 4;premium 0;wed 0 1 happy 50");
        y.months(1);
        Due.due("what is paid stays in the town", y.count(9), 17);
        Due.due("2", y.count(10), 4);
        Due.says(45, "12 CLAIMS in all, 13 rows of THE LOG");
        Due.due("claims", y.count(12), 1);
        Due.due("rows", y.count(13), 1);
        Due.law(y, "lift 0");
        y.months(59);
        Due.due("claims", y.count(12), 60);
        Due.due("rows", y.count(13), 60);
        y.months(1);
        Due.due("claims", y.count(12), 61);
        Due.due("rows", y.count(13), 60);
        Due.says(45, "NONE for another what");
        for (int what : new int[] {Integer.MIN_VALUE, -2, -1, 15, 16, Integer.MAX_VALUE}) {
            Due.due("count(" + what + ")", y.count(what), -1);
        }
    }
}
