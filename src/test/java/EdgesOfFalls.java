/** The edges that the document names for promises 23 to 28: who falls, what each loses and must hold, rings, who leans. */
final class EdgesOfFalls {
    private static final int[] NONE_OF_FOUR = {Integer.MIN_VALUE, -1, 4, 8, 32, Integer.MAX_VALUE};

    private EdgesOfFalls() {
    }

    static void run() {
        falls();
        matchesByNumbers();
        ruinedNow();
        loses();
        holds();
        holdsAtMost();
        ring();
        rings();
        leans();
        noSuchPerson();
        nothingStays();
    }

    /** 0 and 1 are wed, 2 and 3 insure them. */
    private static RivalWeds insured(String people, String more) {
        return Due.townOf(people + ";asked 2 0;asked 3 1;premium 9;bar 0;wed 0 1 happy 99;" + more);
    }

    private static void falls() {
        Due.says(23, "who is RUINED then that is not now, as bits");
        Due.due("8 of 9", insured("person 0;person 0;person 8;person 50", "pays 9").falls(), 4);
        Due.due("9 of 9", insured("person 0;person 0;person 9;person 50", "pays 9").falls(), 0);
        Due.due("both", insured("person 0;person 0;person 8;person 8", "pays 9").falls(), 12);
        Due.due("nothing of nothing", insured("person 0;person 0;person 0;person 0", "pays 0").falls(), 0);
        Due.says(23, "a REINSURER who had to give more is RUINED");
        Due.due("4 of 4", insured("person 0;person 0;person 50;person 50;person 4", "pays 9;reinsured 2 4").falls(), 0);
        Due.due("3 of 4", insured("person 0;person 0;person 50;person 50;person 3", "pays 9;reinsured 2 4").falls(), 16);
        Due.due("by its half 2 falls not", insured("person 0;person 0;person 5;person 50;person 4", "pays 9;reinsured 2 4").falls(), 0);
        Due.says(23, "HAPPY not looked at");
        RivalWeds x = insured("person 0;person 0;person 8;person 50", "pays 9");
        Due.due("happy 99, bar 0", x.falls(), 4);
        RivalWeds zero = Due.townOf("person 0;person 0;person 8;person 50;asked 2 0;asked 3 1;pays 9;wed 0 1 happy 0");
        Due.due("happy 0", zero.falls(), 4);
        Due.says(23, "if all MATCHES that are not OVER CLAIMED now");
        x.part(0);
        Due.due("it is over", x.falls(), 0);
        Due.due("there are none", Due.townOf("person 0;person 0").falls(), 0);
        Due.due("there is nobody", new RivalWeds().falls(), 0);
        Due.says(23, "CLAIMED now: no PREMIUM is had");
        Due.due("9 of both would have saved 2", insured("person 99;person 99;person 8;person 50", "pays 9").falls(), 4);
    }

    private static void matchesByNumbers() {
        Due.says(23, "by numbers (none is OVER by that)");
        String town = "person 0;person 0;person 10;person 0;person 50;asked 2 0;asked 4 1;asked 0 2;asked 4 3;pays 10;";
        RivalWeds x = Due.townOf(town + "wed 0 1 happy 9;wed 2 3 happy 9");
        Due.due("0 has 10 of the first, then pays them", x.falls(), 0);
        RivalWeds y = Due.townOf(town + "wed 2 3 happy 9;wed 0 1 happy 9");
        Due.due("0 has nothing yet", y.falls(), 1);
        Due.says(23, "who is RUINED by one of them insures not the next");
        String four = "person 0;person 0;person 0;person 0;person 5;person 50;asked 4 0;asked 5 0;asked 4 2;asked 5 2;pays 9;";
        RivalWeds z = Due.townOf(four + "wed 0 1 happy 9;wed 2 3 happy 9");
        Due.due("4 falls by the first", z.falls(), 16);
        Due.due("5 pays but once", z.loses(5), 9);
    }

    private static void ruinedNow() {
        Due.says(23, "who is RUINED then that is not now");
        RivalWeds x = Due.townOf("person 0;person 0;person 0;person 50;person 50;asked 2 0;asked 3 0;asked 4 1;pays 1;bar 99;wed 0 1 happy 9;premium 0");
        x.months(1);
        Due.due("2 is now", x.count(10), 4);
        Due.town(x, "pays 60");
        Due.due("the others then", x.falls(), 24);
        Due.says(25, "so that one is not among who FALLS: who is RUINED now is not");
        Due.due("0", x.holds(2), 0);
        Due.says(24, "what one loses, RUINED as one is: 0 at least");
        Due.due("nothing", x.loses(2), 0);
        Due.says(23, "a REINSURER who is RUINED now gives nothing");
        x.reinsure(3, 2);
        Due.due("as without", x.falls(), 24);
    }

    private static void loses() {
        Due.says(24, "what one loses by it at most (WEALTH ahead less behind, 0 at least)");
        RivalWeds x = insured("person 0;person 0;person 50;person 50;person 50", "pays 9;reinsured 2 4");
        Due.due("9 less 4", x.loses(2), 5);
        Due.due("9", x.loses(3), 9);
        Due.due("4 as a reinsurer", x.loses(4), 4);
        Due.due("who is paid 9 loses nothing", x.loses(0), 0);
        Due.due("nor the second", x.loses(1), 0);
        RivalWeds all = insured("person 0;person 0;person 5;person 50", "pays 9");
        Due.due("all that one has", all.loses(2), 5);
        RivalWeds evens = Due.townOf("person 10;person 10;person 10;person 10;asked 2 0;asked 3 0;asked 0 2;asked 1 2;pays 9;wed 0 1 happy 9;wed 2 3 happy 9");
        Due.due("9 had and 9 paid", evens.loses(0), 0);
        Due.due("9 paid and 9 had", evens.loses(2), 0);
        RivalWeds gain = insured("person 995;person 0;person 50;person 50", "pays 9;asked 0 1");
        Due.due("above 999 is gone, but not lost", gain.loses(0), 0);
        gain.part(0);
        Due.due("all is over", gain.loses(3), 0);
    }

    private static void holds() {
        Due.says(25, "the least WEALTH (0 to 999) that one must have now instead of one's own");
        RivalWeds x = insured("person 7;person 7;person 50;person 0;person 50", "pays 9;reinsured 2 4");
        Due.due("9 less 4 of the reinsurer", x.holds(2), 5);
        Due.due("9, though one has 0", x.holds(3), 9);
        Due.due("the half of 9 as a reinsurer", x.holds(4), 4);
        Due.due("who pays nothing", x.holds(0), 0);
        Due.due("nor the second", x.holds(1), 0);
        Due.town(x, "pays 0");
        Due.due("9 of nothing", x.holds(3), 0);
        Due.says(25, "all else as it is");
        RivalWeds poor = insured("person 0;person 0;person 50;person 50;person 3", "pays 9;reinsured 2 4");
        Due.due("the reinsurer has but 3", poor.holds(2), 6);
        RivalWeds paid = Due.townOf("person 0;person 0;person 50;person 50;asked 2 0;asked 3 0;asked 0 2;asked 1 2;pays 9;wed 0 1 happy 9;wed 2 3 happy 9");
        Due.due("18 are had and 9 paid of the half", paid.holds(0), 0);
        Due.due("the second has the other half", paid.holds(1), 0);
        Due.due("9 are paid ahead of what is had", paid.holds(2), 9);
        Due.town(paid, "reinsured 2 3");
        Due.due("3 gives 4 and pays 9", paid.holds(3), 13);
        Due.due("2 pays 9 less 4", paid.holds(2), 5);
    }

    private static void holdsAtMost() {
        String rich = "person 999;person 999;person 999;person 999;person 999;person 999;person 999;person 0;";
        RivalWeds x = Due.townOf(rich + "wed 0 1 happy 9");
        for (int p = 2; p < 7; p++) {
            x.ask(p, 0);
            x.ask(p, 1);
            x.reinsure(p, 7);
        }
        Due.says(25, "0 to 999; NONE");
        // five halves, and the pay of 7 as of one more insurer
        Due.town(x, "pays 99;asked 7 0");
        Due.due("5 times 49 and 99", x.holds(7), 344);
        x.wed(2, 3);
        Due.due("of two matches (2 and 3 had none who asked)", x.holds(7), 344);
        for (int p = 0; p < 7; p++) {
            if (p != 2) {
                x.ask(p, 2);
            }
            x.reinsure(p, 7);
        }
        Due.due("and of 0, 1, 4, 5, 6 the halves", x.holds(7), 344 + 245);
        x.ask(7, 2);
        Due.due("and of oneself", x.holds(7), 344 + 344);
        x.wed(4, 5);
        for (int p = 0; p < 8; p++) {
            if (p != 4) {
                x.ask(p, 4);
            }
        }
        Due.due("1032 are more than can be", x.holds(7), -1);
        Due.town(x, "pays 95");
        Due.due("3 times 330 are not", x.holds(7), 990);
        Due.town(x, "pays 96");
        Due.due("3 times 336", x.holds(7), -1);
        Due.says(25, "999 itself is enough");
        RivalWeds y = Due.townOf(rich + "pays 74");
        for (int p = 0; p < 7; p++) {
            y.reinsure(p, 7);
        }
        for (int first = 0; first < 8; first += 2) {
            for (int p = 0; p < 8; p++) {
                if (p != first) {
                    y.ask(p, first);
                }
            }
            y.wed(first, first + 1);
        }
        // three matches of 5 halves and a pay: 3 times 185 and 74; the fourth of 6 halves: 222
        Due.due("999", y.holds(7), 999);
        Due.town(y, "pays 75");
        Due.due("1002", y.holds(7), -1);
    }

    private static void ring() {
        RivalWeds x = Due.townOf("person 1;person 1;person 1;person 1");
        Due.says(26, "how many steps from one along REINSURERS come back to oneself; none");
        Due.due("without", x.ring(0), -1);
        x.reinsure(0, 1);
        Due.due("a chain", x.ring(0), -1);
        Due.due("its end", x.ring(1), -1);
        x.reinsure(1, 0);
        Due.due("2 steps", x.ring(0), 2);
        Due.due("2 steps", x.ring(1), 2);
        x.reinsure(2, 0);
        Due.due("who comes to a ring is not of it", x.ring(2), -1);
        x.reinsure(3, 2);
        Due.due("nor who comes to that one", x.ring(3), -1);
        x.reinsure(1, 3);
        Due.due("4 steps", x.ring(0), 4);
        x.reinsure(2, -1);
        Due.due("none told: it is open", x.ring(0), -1);
        RivalWeds eight = ringOfEight();
        for (int p = 0; p < 8; p++) {
            Due.due("all eight from " + p, eight.ring(p), 8);
        }
        Due.says(26, "along REINSURERS: RUINED ones, too");
        RivalWeds y = insured("person 0;person 0;person 0;person 9", "pays 9;reinsured 2 3;reinsured 3 2");
        Due.town(y, "bar 99;premium 0");
        y.months(5);
        Due.due("2 is ruined", y.person(2, 4), 1);
        Due.due("2 steps", y.ring(2), 2);
    }

    private static RivalWeds ringOfEight() {
        RivalWeds x = Due.townOf("person 1;person 1;person 1;person 1;person 1;person 1;person 1;person 1");
        for (int p = 0; p < 8; p++) {
            x.reinsure(p, (p + 3) % 8);
        }
        return x;
    }

    private static void rings() {
        Due.says(27, "RINGS: how many such rings there are");
        Due.due("of nobody", new RivalWeds().rings(), 0);
        Due.due("of eight", ringOfEight().rings(), 1);
        RivalWeds x = Due.townOf("person 1;person 1;person 1;person 1;person 1;person 1;person 1;person 1");
        Due.due("none", x.rings(), 0);
        for (int p = 0; p < 8; p++) {
            Due.due(p / 2 + " pairs", x.rings(), p / 2);
            x.reinsure(p, p ^ 1);
        }
        Due.due("four pairs", x.rings(), 4);
        x.reinsure(0, 2);
        Due.due("0 comes to a ring, and is of none", x.rings(), 3);
        x.reinsure(1, 0);
        Due.due("1 too", x.rings(), 3);
        x.reinsure(3, 1);
        Due.due("0 2 3 1 are a ring", x.rings(), 3);
        x.reinsure(5, -1);
        Due.due("4 is open", x.rings(), 2);
    }

    private static void leans() {
        RivalWeds x = Due.townOf("person 1;person 1;person 1;person 1;reinsured 0 1;reinsured 1 2");
        Due.says(28, "all who come to one along REINSURERS, as bits (oneself only by a RING)");
        Due.due("of a chain", x.leans(2), 3);
        Due.due("in it", x.leans(1), 1);
        Due.due("ahead of it", x.leans(0), 0);
        Due.due("without", x.leans(3), 0);
        x.reinsure(2, 0);
        Due.due("by a ring oneself, too", x.leans(1), 7);
        x.reinsure(3, 1);
        Due.due("and who comes to it", x.leans(2), 15);
        Due.due("to whom nobody comes", x.leans(3), 0);
        RivalWeds eight = ringOfEight();
        for (int p = 0; p < 8; p++) {
            Due.due("all eight to " + p, eight.leans(p), 255);
        }
        eight.reinsure(0, -1);
        Due.due("the longest chain", eight.leans(0), 254);
        Due.due("its begin", eight.leans(3), 0);
    }

    private static void noSuchPerson() {
        RivalWeds x = Due.townOf("person 1;person 1;person 1;person 1");
        for (int none : NONE_OF_FOUR) {
            Due.says(24, "IndexOutOfBoundsException: there is no such PERSON");
            Due.bounds("loses(" + none + ")", () -> x.loses(none));
            Due.says(25, "IndexOutOfBoundsException: there is no such PERSON");
            Due.bounds("holds(" + none + ")", () -> x.holds(none));
            Due.says(26, "IndexOutOfBoundsException: there is no such PERSON");
            Due.bounds("ring(" + none + ")", () -> x.ring(none));
            Due.says(28, "IndexOutOfBoundsException: there is no such PERSON");
            Due.bounds("leans(" + none + ")", () -> x.leans(none));
        }
    }

    private static void nothingStays() {
        RivalWeds x = insured("person 0;person 0;person 3;person 5;person 2", "pays 9;reinsured 2 4");
        String ahead = Seen.of(x);
        Due.says(23, "if all CLAIMED: nothing stays, no row of THE LOG");
        x.falls();
        Due.same("falls", Seen.of(x), ahead);
        Due.says(24, "if all CLAIMED: nothing stays");
        x.loses(2);
        Due.same("loses", Seen.of(x), ahead);
        Due.says(25, "instead of one's own: nothing stays");
        x.holds(2);
        Due.same("holds", Seen.of(x), ahead);
    }
}
