/** The edges that the document names for promises 16 and 37 to 41: months, trials, spans, the log, the seed. */
final class EdgesOfMonths {
    private static final String CALM = "person 9;person 9;wed 0 1 happy 50;bar 0;";

    private EdgesOfMonths() {
    }

    static void run() {
        howMany();
        draw();
        premiums();
        turning();
        claims();
        whoseClaims();
        halves();
        reinsurers();
        ruin();
        richAndGone();
        over();
        monthMost();
        trial();
        span();
        led();
        log();
        seed();
    }

    private static RivalWeds lawful(String town, String law) {
        RivalWeds x = Due.townOf(town);
        Due.law(x, law);
        return x;
    }

    private static void wealth(RivalWeds x, int... due) {
        for (int person = 0; person < due.length; person++) {
            Due.due("wealth of " + person, x.person(person, 0), due[person]);
        }
    }

    /** A match of 0 and 1 that claims each month, with insurers 2 and 3. */
    private static RivalWeds claimed(String people, String more, int months) {
        RivalWeds x = lawful(people + ";asked 2 0;asked 3 1;premium 0;bar 99;" + more + ";wed 0 1 happy 50", "");
        x.months(months);
        return x;
    }

    private static void howMany() {
        Due.says(16, "So many MONTHS more (1 to 60)");
        RivalWeds x = lawful(CALM + "bar 0", "");
        Due.due("1", x.months(1), 0);
        Due.due("month", x.count(4), 1);
        Due.due("60", x.months(60), 0);
        Due.due("month", x.count(4), 61);
        Due.due("months of the match", x.match(0, 3), 61);
        Due.due("an act each", x.count(14), 2);
        Due.says(16, "IllegalArgumentException: they are none");
        for (int none : new int[] {Integer.MIN_VALUE, -1, 0, 61, 62, Integer.MAX_VALUE}) {
            Due.argument("months(" + none + ")", () -> x.months(none));
        }
        Due.refuses(x, "months(61)", IllegalArgumentException.class, () -> x.months(61));
        Due.says(16, "how many CLAIMS");
        RivalWeds y = lawful("person 9;person 9;person 9;person 9;wed 0 1 happy 50;wed 2 3 happy 60;bar 55", "");
        Due.due("one a month", y.months(60), 60);
        Due.town(y, "bar 99");
        Due.due("two a month", y.months(2), 4);
        y.part(0);
        y.part(1);
        Due.due("none of those that are over", y.months(1), 0);
        Due.due("a town without people has months too", new RivalWeds().months(60), 0);
    }

    private static void draw() {
        Due.says(16, "QUARREL is DRAW modulo 10; SEED is 1103515245 times SEED and 12345, as an int that goes round; bits 16 to 30");
        for (int begin : new int[] {1, 0, 2, -1, 777777777, Integer.MIN_VALUE, Integer.MAX_VALUE}) {
            RivalWeds x = new RivalWeds();
            x.seed(begin);
            long seed = begin & 0xffffffffL;
            for (int i = 0; i < 25; i++) {
                x.months(1);
                seed = (seed * 1103515245L + 12345L) % 4294967296L;
                Due.due("quarrel " + i + " from " + begin, x.count(5), seed / 65536 % 32768 % 10);
            }
            Due.due("seed", x.seed(0), (int) seed);
        }
        RivalWeds x = new RivalWeds();
        x.months(3);
        RivalWeds y = new RivalWeds();
        for (int i = 0; i < 3; i++) {
            y.months(1);
        }
        Due.same("one draw a month", Seen.of(y).replace("3\nseed", "1\nseed"), Seen.of(x));
    }

    private static void premiums() {
        Due.says(16, "each of its INSURERS, by numbers, has PREMIUM from both together (from the first one as much as it has of it, the rest from the second one, as much as that one has)");
        String asked = ";person 0;person 0;person 0;asked 2 0;asked 3 0;asked 4 1;bar 0;premium ";
        RivalWeds x = lawful("person 3;person 4" + asked + "5;wed 0 1 happy 99", "");
        x.months(1);
        wealth(x, 0, 0, 5, 2, 0);
        Due.due("nobody is ruined by it", x.count(10), 0);
        RivalWeds y = lawful("person 10;person 3" + asked + "5;wed 0 1 happy 99", "");
        y.months(1);
        wealth(y, 0, 0, 5, 5, 3);
        RivalWeds z = lawful("person 10;person 15" + asked + "5;wed 1 0 happy 99", "");
        z.months(1);
        wealth(z, 10, 0, 5, 5, 5);
        RivalWeds v = lawful("person 1;person 20" + asked + "7;wed 0 1 happy 99", "");
        v.months(1);
        wealth(v, 0, 0, 7, 7, 7);
        RivalWeds zero = lawful("person 0;person 0;person 9;person 9;asked 0 2;asked 1 3;bar 0;premium 5;wed 2 3 happy 99", "");
        zero.months(1);
        wealth(zero, 5, 5, 0, 8);
        Due.says(16, "PREMIUM 0 to 20");
        RivalWeds w = lawful("person 99;person 9" + asked + "0;wed 0 1 happy 99", "");
        w.months(1);
        wealth(w, 99, 9, 0, 0, 0);
        Due.town(w, "premium 20");
        w.months(1);
        wealth(w, 39, 9, 20, 20, 20);
        Due.says(16, "its INSURERS: none, if they are fewer than two");
        RivalWeds one = lawful("person 9;person 9;person 0;asked 2 0;bar 0;wed 0 1 happy 99", "");
        one.months(5);
        wealth(one, 9, 9, 0);
    }

    private static void turning() {
        Due.says(16, "HAPPY TURNS then (0 at least, 99 at most)");
        int[][] due = {{69, 99}, {70, 99}, {68, 98}, {99, 99}};
        for (int[] one : due) {
            RivalWeds x = lawful("person 9;person 9;bar 0;wed 0 1 happy " + one[0], "lift 30");
            x.months(1);
            Due.due(one[0] + " lifted by 30", x.match(0, 2), one[1]);
        }
        due = new int[][] {{31, 1}, {30, 0}, {29, 0}, {0, 0}};
        for (int[] one : due) {
            RivalWeds x = lawful("person 9;person 9;bar 0;wed 0 1 happy " + one[0], "sour 30");
            x.months(1);
            Due.due(one[0] + " soured by 30", x.match(0, 2), one[1]);
        }
        Due.says(16, "by all as it is then: WEALTH behind the PREMIUMS, MONTHS and MONTH ahead of the MONTH, QUARREL of it");
        String rich = "person 60;person 41;person 0;person 0;asked 2 0;asked 3 0;bar 0;premium 1;wed 0 1 happy 50";
        RivalWeds x = lawful(rich, "lift 1 if rich;lift 2 if months < 1;lift 4 if month < 1;lift 8 if quarrel > 7;lift 16 if insurers > 1");
        x.months(1);
        Due.due("101 less 2 is not rich, quarrel 8", x.match(0, 2), 80);
        RivalWeds y = lawful(rich.replace("41", "42"), "lift 1 if rich");
        y.months(1);
        Due.due("102 less 2 is", y.match(0, 2), 51);
        Due.says(16, "MONTHS is 1 more");
        Due.due("1", x.match(0, 3), 1);
        x.months(2);
        Due.due("3", x.match(0, 3), 3);
        Due.says(16, "Each MATCH that is not OVER");
        x.part(0);
        x.months(2);
        Due.due("months", x.match(0, 3), 3);
        Due.due("premiums no more", x.person(2, 0), 3);
        Due.due("the month goes on", x.count(4), 5);
    }

    private static void claims() {
        Due.says(16, "BAR 0 to 99: below it is a CLAIM");
        Due.due("20 is not below 20", lawful("person 9;person 9;wed 0 1 happy 20", "").months(1), 0);
        Due.due("19 is", lawful("person 9;person 9;wed 0 1 happy 19", "").months(1), 1);
        Due.due("21 is not", lawful("person 9;person 9;wed 0 1 happy 21", "").months(1), 0);
        Due.due("98 is below 99", lawful("person 9;person 9;bar 99;wed 0 1 happy 98", "").months(1), 1);
        Due.due("99 is not", lawful("person 9;person 9;bar 99;wed 0 1 happy 99", "").months(1), 0);
        Due.due("0 is not below 0", lawful("person 9;person 9;bar 0;wed 0 1 happy 0", "").months(1), 0);
        Due.due("0 is below 1", lawful("person 9;person 9;bar 1;wed 0 1 happy 0", "").months(1), 1);
        Due.says(16, "If HAPPY is below BAR: as it is behind the turn");
        Due.due("19 and 1", lawful("person 9;person 9;wed 0 1 happy 19", "lift 1").months(1), 0);
        Due.due("20 less 1", lawful("person 9;person 9;wed 0 1 happy 20", "sour 1").months(1), 1);
        Due.says(16, "a CLAIM also without INSURERS: nothing is paid");
        RivalWeds x = claimed("person 9;person 9;person 9;person 9;reinsured 2 3", "asked 2 1", 1);
        Due.due("insurers", x.log(0, 3), 12);
        RivalWeds y = lawful("person 9;person 9;person 9;person 9;asked 2 0;bar 99;wed 0 1 happy 9", "");
        Due.due("a claim", y.months(1), 1);
        Due.due("paid", y.log(0, 2), 0);
        Due.due("insurers", y.log(0, 3), 0);
        wealth(y, 9, 9, 9, 9);
    }

    private static void whoseClaims() {
        Due.says(16, "Each MATCH by numbers; each of its INSURERS as they are then");
        String two = "person 0;person 0;person 0;person 0;person 5;person 5;asked 4 0;asked 5 1;asked 4 2;asked 5 3;premium 0;bar 99;";
        RivalWeds x = lawful(two + "pays 5;wed 2 3 happy 50", "");
        x.wed(0, 1);
        x.months(1);
        wealth(x, 0, 0, 5, 5, 0, 0);
        Due.due("the first match had 10", x.log(1, 2), 10);
        Due.due("it is match 0", x.log(1, 1), 0);
        Due.due("its insurers", x.log(1, 3), 48);
        Due.due("the second had nothing", x.log(0, 2), 0);
        Due.due("it is match 1", x.log(0, 1), 1);
        Due.due("its insurers had nothing, but were there", x.log(0, 3), 48);
        Due.due("both are ruined by it", x.count(10), 48);
        RivalWeds y = lawful(two + "pays 6;wed 2 3 happy 50", "");
        y.wed(0, 1);
        y.months(1);
        Due.due("who are ruined by the first insure not the second", y.log(0, 3), 0);
        Due.due("the second is a claim all the same", y.count(12), 2);
        Due.says(16, "INSURERS as they are then: one who is ruined within the CLAIM pays what there is");
        RivalWeds z = claimed("person 0;person 0;person 30;person 4", "pays 20;reinsured 2 3", 1);
        wealth(z, 10, 10, 14, 0);
        Due.due("3 gave 4 of 10, then had nothing to pay", z.count(10), 8);
        Due.due("paid", z.log(0, 2), 20);
        Due.due("both are told of", z.log(0, 3), 12);
    }

    private static void halves() {
        Due.says(16, "of all that is paid the first one of both has the half, rounded down, the second one the rest");
        wealth(claimed("person 0;person 0;person 1;person 0", "pays 9", 1), 0, 1, 0, 0);
        wealth(claimed("person 0;person 0;person 1;person 1", "pays 9", 1), 1, 1, 0, 0);
        wealth(claimed("person 0;person 0;person 2;person 1", "pays 9", 1), 1, 2, 0, 0);
        RivalWeds x = lawful("person 0;person 0;person 2;person 1;asked 2 0;asked 3 1;premium 0;bar 99;pays 9;wed 1 0 happy 9", "");
        x.months(1);
        wealth(x, 2, 1, 0, 0);
        wealth(claimed("person 5;person 5;person 9;person 9", "pays 0", 1), 5, 5, 9, 9);
    }

    private static void reinsurers() {
        Due.says(16, "first one's REINSURER gives one the half of it, rounded down");
        String four = "person 0;person 0;person 50;person 50;person ";
        RivalWeds x = claimed(four + "50", "pays 7;reinsured 2 4", 1);
        wealth(x, 7, 7, 46, 43, 47);
        Due.says(16, "as much as that one has of it; who gives all one has, and had to give more, is RUINED");
        x = claimed(four + "3", "pays 7;reinsured 2 4", 1);
        wealth(x, 7, 7, 46, 43, 0);
        Due.due("all, and not more", x.count(10), 0);
        x = claimed(four + "2", "pays 7;reinsured 2 4", 1);
        wealth(x, 7, 7, 45, 43, 0);
        Due.due("all, and had to give more", x.count(10), 16);
        x = claimed(four + "0", "pays 7;reinsured 2 4", 1);
        wealth(x, 7, 7, 43, 43, 0);
        Due.due("who has nothing gives all one has, too", x.count(10), 16);
        x = claimed(four + "0", "pays 1;reinsured 2 4", 1);
        Due.due("the half of 1 is nothing", x.count(10), 0);
        x = claimed(four + "0", "pays 0;reinsured 2 4", 1);
        Due.due("the half of 0 is nothing", x.count(10), 0);
        x = claimed(four + "1", "pays 2;reinsured 2 4", 1);
        wealth(x, 2, 2, 49, 48, 0);
        Due.due("the half of 2 is 1", x.count(10), 0);
        Due.says(16, "one's REINSURER, if there is one who is not RUINED");
        x = claimed(four + "2", "pays 7;reinsured 2 4;reinsured 3 4", 1);
        wealth(x, 7, 7, 45, 43, 0);
        Due.due("who is ruined by 2 gives 3 nothing", x.count(10), 16);
        x = claimed(four + "50", "pays 7;reinsured 2 4;reinsured 3 4", 1);
        wealth(x, 7, 7, 46, 46, 44);
        Due.town(x, "pays 90");
        x.months(1);
        wealth(x, 75, 75, 0, 0, 0);
        Due.due("44 of 45 to 2, who pays 90, then ruined: 3 has but 46", x.count(10), 24);
        x = Due.townOf("person 50;person 50;person 0;person 50;person 50;asked 2 0;asked 3 0;asked 4 1;asked 0 2;asked 1 2;premium 0;bar 99;wed 0 1 happy 9");
        Due.law(x, "");
        x.months(1);
        x.part(0);
        x.wed(2, 3);
        x.months(1);
        x.part(1);
        wealth(x, 50, 50, 10, 50, 40);
        Due.due("2 is ruined, and has 10", x.count(10), 4);
        x.reinsure(3, 2);
        x.wed(0, 1);
        x.months(1);
        wealth(x, 60, 60, 10, 40, 30);
        Due.says(16, "a REINSURER's own REINSURER gives nothing");
        x = claimed(four + "1;person 50", "pays 8;reinsured 2 4;reinsured 4 5", 1);
        wealth(x, 8, 8, 43, 42, 0, 50);
        Due.says(16, "a REINSURER (another one): also one of both, also another INSURER");
        x = claimed("person 9;person 0;person 50;person 50", "pays 8;reinsured 2 0;reinsured 3 2", 1);
        wealth(x, 13, 8, 42, 46);
    }

    private static void ruin() {
        Due.says(16, "then one pays the amount, as much as one has; who has less is RUINED, and has nothing");
        RivalWeds x = claimed("person 0;person 0;person 9;person 10", "pays 9", 1);
        wealth(x, 9, 9, 0, 1);
        Due.due("9 of 9", x.count(10), 0);
        x = claimed("person 0;person 0;person 8;person 10", "pays 9", 1);
        wealth(x, 8, 9, 0, 1);
        Due.due("8 of 9", x.count(10), 4);
        x = claimed("person 0;person 0;person 0;person 10", "pays 9", 1);
        Due.due("0 of 9", x.count(10), 4);
        x = claimed("person 0;person 0;person 0;person 0", "pays 0", 1);
        Due.due("0 of 0", x.count(10), 0);
        x = claimed("person 0;person 0;person 5;person 10;person 4", "pays 9;reinsured 2 4", 1);
        wealth(x, 9, 9, 0, 1, 0);
        Due.due("5 and 4 of 9", x.count(10), 0);
        x = claimed("person 0;person 0;person 4;person 10;person 4", "pays 9;reinsured 2 4", 1);
        wealth(x, 8, 9, 0, 1, 0);
        Due.due("4 and 4 of 9", x.count(10), 4);
        Due.says(16, "RUINED stays: who has WEALTH again is RUINED, and insures nobody");
        x = claimed("person 0;person 0;person 0;person 20", "pays 9;asked 0 2;asked 1 3", 1);
        Due.due("2 is ruined", x.count(10), 4);
        x.wed(2, 3);
        Due.due("of 2 and 3 both pay", x.months(1), 2);
        Due.due("2 has wealth", x.person(2, 0) > 0, true);
        Due.due("2 is ruined", x.person(2, 4), 1);
        Due.due("3 alone insures not", x.match(0, 5), 0);
    }

    private static void richAndGone() {
        Due.says(16, "WEALTH is 999 at most: what is above is gone");
        RivalWeds x = lawful("person 50;person 50;person 995;person 999;asked 2 0;asked 3 0;bar 0;premium 4;wed 0 1 happy 50", "");
        x.months(1);
        wealth(x, 42, 50, 999, 999);
        x = lawful("person 50;person 50;person 994;person 996;asked 2 0;asked 3 0;bar 0;premium 4;wed 0 1 happy 50", "");
        x.months(1);
        wealth(x, 42, 50, 998, 999);
        x = claimed("person 994;person 993;person 9;person 4", "pays 9", 1);
        wealth(x, 999, 999, 0, 0);
        Due.due("what was paid", x.log(0, 2), 13);
        x = claimed("person 994;person 992;person 9;person 4", "pays 9", 1);
        wealth(x, 999, 999, 0, 0);
        x = claimed("person 993;person 991;person 7;person 4", "pays 9", 1);
        wealth(x, 998, 997, 0, 0);
        Due.says(16, "WEALTH is 999 at most: also ahead of what one pays of it");
        x = claimed("person 0;person 0;person 960;person 99;person 99", "pays 99;reinsured 2 4", 1);
        wealth(x, 99, 99, 900, 0, 50);
        x = claimed("person 0;person 0;person 949;person 99;person 99", "pays 99;reinsured 2 4", 1);
        wealth(x, 99, 99, 899, 0, 50);
    }

    private static void over() {
        Due.says(16, "If HAPPY is 0: it is OVER");
        RivalWeds x = lawful("person 9;person 9;person 9;person 9;asked 2 0;asked 3 1;pays 4;premium 0;wed 0 1 happy 7", "sour 7");
        Due.due("a claim ahead of it", x.months(1), 1);
        wealth(x, 13, 13, 5, 5);
        Due.due("over", x.match(0, 4), 1);
        Due.due("happy", x.match(0, 2), 0);
        Due.due("its months", x.match(0, 3), 1);
        Due.due("nobody is wed", x.count(11), 0);
        Due.due("no claim more", x.months(2), 0);
        Due.due("its months stand", x.match(0, 3), 1);
        Due.due("they may be wed again", x.wed(0, 1), 1);
        Due.says(16, "If HAPPY is 0: also without a CLAIM; not if it is 1");
        RivalWeds y = lawful("person 9;person 9;person 9;person 9;bar 0;wed 0 1 happy 7;wed 2 3 happy 8", "sour 7");
        Due.due("no claims", y.months(1), 0);
        Due.due("0", y.match(0, 4), 1);
        Due.due("1", y.match(1, 4), 0);
        Due.says(16, "HAPPY TURNS: from 0 on, too");
        RivalWeds z = lawful("person 9;person 9;bar 0;wed 0 1 happy 0", "lift 3");
        z.months(1);
        Due.due("3", z.match(0, 2), 3);
        Due.due("goes on", z.match(0, 4), 0);
    }

    private static void monthMost() {
        Due.says(16, "MONTH is 1 more (9999 at most)");
        RivalWeds x = lawful("person 1;person 1;bar 99;wed 0 1 happy 50", "");
        for (int i = 0; i < 166; i++) {
            x.months(60);
        }
        x.months(38);
        Due.due("month", x.count(4), 9998);
        x.months(1);
        Due.due("month", x.count(4), 9999);
        Due.due("the claim's month", x.log(0, 0), 9998);
        x.months(1);
        Due.due("at most", x.count(4), 9999);
        Due.due("the claim's month", x.log(0, 0), 9999);
        x.months(60);
        Due.due("at most", x.count(4), 9999);
        Due.due("the months of the match go on", x.match(0, 3), 10060);
        Due.due("all were claims", x.count(12), 10060);
        Due.due("its oldest row", x.log(59, 0), 9999);
    }

    private static void trial() {
        String town = "person 30;person 2;person 20;person 9;person 30;asked 2 0;asked 3 1;premium 3;pays 21;bar 60;wed 0 1 happy 55;";
        Due.says(37, "TRIAL of N MONTHS (0 to 40) from now: how many CLAIMS; RUINED ones then, as bits");
        for (int n : new int[] {1, 2, 3, 39, 40}) {
            RivalWeds x = Due.townOf(town + "likes 0 05000");
            int claims = x.trial(n, false);
            int ruined = x.trial(n, true);
            Due.due("claims of " + n, claims, x.months(n));
            Due.due("ruined by " + n, ruined, x.count(10));
        }
        RivalWeds x = Due.townOf(town + "likes 0 05000");
        Due.due("0 months", x.trial(0, false), 0);
        Due.due("nobody is ruined by none", x.trial(0, true), 0);
        Due.says(37, "draws, too; nothing stays");
        String ahead = Seen.of(x);
        x.trial(40, true);
        x.trial(40, false);
        Due.same("as it was", Seen.of(x), ahead);
        Due.says(37, "from now: CLAIMS and RUINED ones as they are now");
        x.months(3);
        Due.due("ruined now", x.trial(0, true), x.count(10));
        Due.due("some are", x.count(10) != 0, true);
        Due.due("claims of the trial alone", x.trial(0, false), 0);
        RivalWeds y = lawful("person 9;person 9;bar 50;wed 0 1 happy 50", "sour 9 if quarrel > 7 and months < 1");
        Due.due("from seed 1 the first quarrel is 8", y.trial(1, false), 1);
        y.seed(5);
        Due.due("from seed 5 it is 5", y.trial(1, false), 0);
        Due.says(37, "IllegalArgumentException: N is none");
        for (int none : new int[] {Integer.MIN_VALUE, -1, 41, Integer.MAX_VALUE}) {
            Due.argument("trial(" + none + ", false)", () -> y.trial(none, false));
            Due.argument("trial(" + none + ", true)", () -> y.trial(none, true));
        }
        Due.refuses(y, "trial(41, false)", IllegalArgumentException.class, () -> y.trial(41, false));
        Due.due("a town without people", new RivalWeds().trial(40, false), 0);
    }

    private static void span() {
        Due.says(38, "SPAN: the fewest and the most CLAIMS in such TRIALS from SEED 1, 2, .. 6");
        RivalWeds x = Due.townOf("person 9;person 9;bar 50;likes 0 05;wed 0 1 happy 52");
        x.seed(99);
        for (int n : new int[] {0, 1, 2, 5, 40}) {
            int fewest = 1000;
            int most = -1;
            for (int seed = 1; seed <= 6; seed++) {
                x.seed(seed);
                int claims = x.trial(n, false);
                fewest = Math.min(fewest, claims);
                most = Math.max(most, claims);
            }
            x.seed(99);
            Due.due("the fewest in " + n, x.span(n, false), fewest);
            Due.due("the most in " + n, x.span(n, true), most);
        }
        // the first quarrels from seed 0 on to 7: 0, 8, 8, 7, 7, 5, 6, 3
        span("of seed 0 nothing is looked at", "sour 9 if quarrel < 1", 0, 0);
        span("of seed 7 nothing is looked at", "sour 9 if quarrel < 4", 0, 0);
        span("seed 6 is looked at", "sour 9 if quarrel > 5 and quarrel < 7", 0, 1);
        span("seeds 1 and 2", "sour 9 if quarrel > 7", 0, 1);
        span("all of them", "sour 9 if quarrel > 4", 1, 1);
        RivalWeds first = lawful("person 9;person 9;bar 50;wed 0 1 happy 50", "sour 9 if months > 0 and quarrel > 7");
        Due.due("8 in the second month of seed 1 alone", first.span(2, true), 1);
        Due.due("not of all", first.span(2, false), 0);
        Due.says(38, "N MONTHS (0 to 40); nothing stays");
        Due.due("0 months, the fewest", x.span(0, false), 0);
        Due.due("0 months, the most", x.span(0, true), 0);
        String ahead = Seen.of(x);
        x.span(40, true);
        Due.same("as it was", Seen.of(x), ahead);
        Due.says(38, "IllegalArgumentException: N is none");
        for (int none : new int[] {Integer.MIN_VALUE, -1, 41, Integer.MAX_VALUE}) {
            Due.argument("span(" + none + ", false)", () -> x.span(none, false));
            Due.argument("span(" + none + ", true)", () -> x.span(none, true));
        }
        Due.refuses(x, "span(41, true)", IllegalArgumentException.class, () -> x.span(41, true));
    }

    private static void span(String what, String law, int fewest, int most) {
        RivalWeds x = lawful("person 9;person 9;bar 50;wed 0 1 happy 50", law);
        Due.due(what + ", the fewest", x.span(1, false), fewest);
        Due.due(what + ", the most", x.span(1, true), most);
    }

    private static void led() {
        Due.says(39, "LED by THE LOG: how many CLAIMS a MATCH had; what was paid for it in all");
        RivalWeds x = lawful("person 0;person 0;person 2;person 1;person 9;person 9;asked 2 0;asked 3 1;premium 0;pays 1;bar 60;wed 0 1 happy 50;wed 4 5 happy 70", "");
        Due.due("none yet", x.led(0, false), 0);
        Due.due("nothing yet", x.led(0, true), 0);
        x.months(1);
        Due.due("one", x.led(0, false), 1);
        Due.due("paid 2", x.led(0, true), 2);
        x.months(1);
        Due.due("two", x.led(0, false), 2);
        Due.due("paid 1 more", x.led(0, true), 3);
        Due.due("another match had none", x.led(1, false), 0);
        Due.due("nothing for it", x.led(1, true), 0);
        x.part(0);
        Due.due("over it is led still", x.led(0, true), 3);
        x.undo();
        Due.says(39, "each CLAIM is led to its MATCH");
        RivalWeds y = lawful("person 0;person 0;person 9;person 9;person 9;person 9;asked 2 0;asked 3 1;premium 0;pays 1;bar 53;wed 4 5 happy 50;wed 0 1 happy 55", "");
        y.months(2);
        Due.due("50 was below 53 twice", y.led(0, false), 2);
        Due.due("55 was not", y.led(1, false), 0);
        Due.town(y, "bar 60");
        y.months(1);
        Due.due("once more", y.led(0, false), 3);
        Due.due("once", y.led(1, false), 1);
        y.part(0);
        y.months(3);
        Due.due("it is over", y.led(0, false), 3);
        Due.due("four times", y.led(1, false), 4);
        Due.due("nobody paid", y.led(0, true), 0);
        Due.due("two paid 1 each time", y.led(1, true), 8);
        Due.says(39, "THE LOG: the latest 60 CLAIMS");
        x.months(58);
        Due.due("60 of 60", x.led(0, false), 60);
        Due.due("all that was paid", x.led(0, true), 3);
        x.months(1);
        Due.due("60 of 61", x.led(0, false), 60);
        Due.due("the first 2 are gone", x.led(0, true), 1);
        x.months(1);
        Due.due("the third, too", x.led(0, true), 0);
        Due.says(39, "IndexOutOfBoundsException: there is no such MATCH");
        for (int none : new int[] {Integer.MIN_VALUE, -1, 2, 20, 32, Integer.MAX_VALUE}) {
            Due.bounds("led(none, false)", () -> x.led(none, false));
            Due.bounds("led(none, true)", () -> x.led(none, true));
        }
        Due.bounds("a town without one", () -> new RivalWeds().led(0, false));
    }

    private static void log() {
        Due.says(40, "what 0 MONTH, 1 the MATCH, 2 what was paid, 3 INSURERS, as bits; so many ago (0 the latest)");
        RivalWeds x = lawful("person 0;person 0;person 2;person 1;person 9;person 9;asked 2 0;asked 3 1;premium 0;pays 1;bar 60;wed 4 5 happy 70;wed 0 1 happy 50", "");
        x.months(3);
        int[][] due = {{2, 1, 0, 0}, {1, 1, 1, 12}, {0, 1, 2, 12}};
        for (int ago = 0; ago < 3; ago++) {
            for (int what = 0; what < 4; what++) {
                Due.due("log(" + ago + ", " + what + ")", x.log(ago, what), due[ago][what]);
            }
        }
        Due.says(40, "NONE without");
        for (int ago : new int[] {Integer.MIN_VALUE, -1, 3, 59, 60, Integer.MAX_VALUE}) {
            for (int what = 0; what < 4; what++) {
                int none = what;
                Due.due("log(" + ago + ", " + what + ")", x.log(ago, none), -1);
            }
        }
        Due.due("a new town has none", new RivalWeds().log(0, 3), -1);
        Due.says(40, "THE LOG: the latest 60 CLAIMS");
        x.months(57);
        Due.due("60 rows", x.count(13), 60);
        Due.due("the oldest", x.log(59, 0), 0);
        Due.due("none ahead of it", x.log(60, 0), -1);
        x.months(1);
        Due.due("60 rows", x.count(13), 60);
        Due.due("61 claims", x.count(12), 61);
        Due.due("the oldest", x.log(59, 0), 1);
        Due.due("paid for it", x.log(59, 2), 1);
        Due.due("the latest", x.log(0, 0), 60);
        Due.due("none ahead of it", x.log(60, 0), -1);
        x.months(60);
        Due.due("the oldest", x.log(59, 0), 61);
        Due.due("its insurers", x.log(59, 3), 0);
        Due.says(40, "NoSuchElementException: another what (with a row and without)");
        for (int what : new int[] {Integer.MIN_VALUE, -1, 4, 5, Integer.MAX_VALUE}) {
            Due.element("log(0, " + what + ")", () -> x.log(0, what));
            Due.element("log(60, " + what + ")", () -> x.log(60, what));
            Due.element("log(-1, " + what + ")", () -> x.log(-1, what));
            Due.element("a new town", () -> new RivalWeds().log(0, what));
        }
    }

    private static void seed() {
        Due.says(41, "SEED: what it was (SEED 1 at first)");
        RivalWeds x = new RivalWeds();
        int was = 1;
        for (int seed : new int[] {0, -1, Integer.MIN_VALUE, Integer.MAX_VALUE, 5, 5}) {
            Due.due("seed(" + seed + ")", x.seed(seed), was);
            was = seed;
        }
        Due.says(41, "it is told to the next DRAW alone, and is no ACT");
        Due.due("acts", x.count(14), 0);
        Due.due("quarrel", x.count(5), 0);
        x.months(1);
        Due.due("from 5 on", x.count(5), 5);
        Due.due("the seed went on", x.seed(0), 5 * 1103515245 + 12345);
    }
}
