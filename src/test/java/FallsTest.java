/** Promises 23 to 28: who falls if all claim at once, what each must hold, rings of reinsurance. */
final class FallsTest {
    public static void main(String[] args) {
        one();
        two();
        ruinedOnes();
        none();
        rings();
        wrong();
        Due.close("FallsTest");
    }

    private static void one() {
        RivalWeds x = Due.townOf("person 0;person 0;person 30;person 4;person 50;asked 2 0;asked 3 0;reinsured 2 3;"
                + "reinsured 3 4;pays 20;bar 0;premium 9;wed 0 1 happy 99");
        Due.due("happy is not looked at", x.falls(), 8);
        int[] loses = {0, 0, 16, 4, 10};
        int[] holds = {0, 0, 16, 20, 10};
        for (int p = 0; p < 5; p++) {
            Due.due("loses(" + p + ")", x.loses(p), loses[p]);
            Due.due("holds(" + p + ")", x.holds(p), holds[p]);
        }
        Due.due("nothing stays", x.person(2, 0) + x.person(0, 0) + x.count(12) + x.count(13) + x.count(10), 30);
        x.part(0);
        Due.due("over it claims not", x.falls(), 0);
        Due.due("nothing is lost", x.loses(2), 0);
        Due.due("nothing must be held", x.holds(3), 0);
    }

    private static void two() {
        RivalWeds x = Due.townOf("person 2;person 0;person 6;person 0;person 0;asked 2 0;asked 3 0;asked 0 2;asked 4 2;"
                + "pays 8;bar 99;premium 1;wed 0 1 happy 0;wed 2 3 happy 60");
        Due.due("by numbers", x.falls(), 29);
        int[] loses = {2, 0, 4, 0, 0};
        int[] holds = {5, 0, 8, 8, 8};
        for (int p = 0; p < 5; p++) {
            Due.due("loses(" + p + ")", x.loses(p), loses[p]);
            Due.due("holds(" + p + ")", x.holds(p), holds[p]);
        }
    }

    private static void ruinedOnes() {
        RivalWeds x = Due.townOf("person 9;person 9;person 3;person 3;person 99;asked 2 0;asked 3 1;asked 4 0;pays 8;"
                + "bar 99;premium 0;wed 0 1 happy 50");
        x.months(1);
        Due.due("ruined", x.count(10), 12);
        Due.due("4 alone insures not", x.falls(), 0);
        Due.due("a ruined one does not fall", x.holds(2), 0);
        x.ask(1, 0);
        x.ask(4, 1);
        Due.due("nor does 4", x.loses(4), 0);
        Due.town(x, "person 1;asked 5 0");
        Due.due("5 falls", x.falls(), 32);
        Due.due("5 must hold", x.holds(5), 8);
        Due.due("4 must", x.holds(4), 8);
        Due.due("4 loses", x.loses(4), 8);
    }

    private static void none() {
        RivalWeds x = Due.townOf("person 999;person 999;person 999;person 999;person 999;person 999;person 999;person 999;pays 99");
        for (int p = 0; p < 8; p++) {
            for (int o = 0; o < 8; o++) {
                if (o != p) {
                    x.ask(p, o);
                }
            }
            if (p < 7) {
                x.reinsure(p, 7);
            }
        }
        x.wed(0, 1);
        x.wed(2, 3);
        Due.due("two matches need", x.holds(7), 688);
        Due.due("nobody falls", x.falls(), 0);
        Due.due("7 loses", x.loses(7), 688);
        x.wed(4, 5);
        Due.due("three need more than can be", x.holds(7), -1);
        Due.due("7 falls", x.falls(), 128);
        Due.due("7 loses all", x.loses(7), 999);
        x.reinsure(0, -1);
        Due.due("1032 less 98", x.holds(7), 934);
        x.reinsure(0, 7);
        x.wed(6, 7);
        Due.town(x, "pays 74");
        Due.due("999 just so", x.holds(7), 999);
        Due.due("it is enough", x.falls(), 0);
        Due.town(x, "pays 75");
        Due.due("1002 not", x.holds(7), -1);
        Due.town(x, "pays 0");
        Due.due("who pays nothing", x.holds(7), 0);
    }

    private static void rings() {
        RivalWeds x = Due.townOf("person 0;person 0;person 0;person 0;person 0;person 0;person 0;person 0");
        Due.due("no rings", x.rings(), 0);
        Due.due("no ring", x.ring(0), -1);
        Due.due("nobody leans", x.leans(0), 0);
        Due.town(x, "reinsured 0 1;reinsured 1 2;reinsured 2 0;reinsured 3 0;reinsured 4 3;reinsured 5 6;reinsured 6 5");
        int[] ring = {3, 3, 3, -1, -1, 2, 2, -1};
        int[] leans = {31, 31, 31, 16, 0, 96, 96, 0};
        for (int p = 0; p < 8; p++) {
            Due.due("ring(" + p + ")", x.ring(p), ring[p]);
            Due.due("leans(" + p + ")", x.leans(p), leans[p]);
        }
        Due.due("rings", x.rings(), 2);
        x.reinsure(2, 7);
        Due.due("one is left", x.rings(), 1);
        Due.due("a chain", x.leans(7), 31);
        Due.due("of a chain oneself not", x.leans(0), 24);
        for (int p = 0; p < 8; p++) {
            x.reinsure(p, (p + 1) % 8);
        }
        Due.due("all in one", x.ring(3), 8);
        Due.due("one ring", x.rings(), 1);
        Due.due("all lean", x.leans(5), 255);
        for (int p = 0; p < 8; p++) {
            x.reinsure(p, p ^ 1);
        }
        Due.due("four rings", x.rings(), 4);
    }

    private static void wrong() {
        RivalWeds x = Due.townOf(Due.FIVE);
        for (int p = -1; p < 6; p += 6) {
            int none = p;
            Due.bounds("loses", () -> x.loses(none));
            Due.bounds("holds", () -> x.holds(none));
            Due.bounds("ring", () -> x.ring(none));
            Due.bounds("leans", () -> x.leans(none));
        }
    }
}
