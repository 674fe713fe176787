/** The edges that the document names for promises 1 to 6. In a text that is wrong a ^ stands ahead of its first wrong byte. */
final class EdgesOfTexts {
    private static final String TWO = "person 50;person 50;wed 0 1 happy 25;likes 0 07;likes 1 60";
    private static final int MARKED_MOST = 399;
    private static final String FIVE = "person 0;person 1;person 2;person 3;person 4";
    private static final String EIGHT = FIVE + ";person 5;person 6;person 7";

    private EdgesOfTexts() {
    }

    static void run() {
        newObject();
        feed();
        end();
        townTexts();
        townLines();
        peopleAndMatches();
        numbers();
        whoThereIs();
        figures();
        weds();
        words();
        moreMustCome();
        lawLines();
        lawNumbers();
        lawWords();
        lawConditions();
        lawPlaces();
        depth();
        fault();
    }

    /** The text is wrong just there, and nothing of it stays. */
    private static void wrongTown(RivalWeds x, String marked) {
        int fault = marked.indexOf('^');
        Due.tape(x, marked.substring(0, fault) + marked.substring(fault + 1));
        Due.refuses(x, marked, IllegalArgumentException.class, () -> x.town());
        Due.due("fault of " + marked, x.fault(), fault);
        Due.due("the tape is used up by " + marked, x.end(1), false);
    }

    /** It is wrong there also if there is more that is wrong behind. */
    private static void wrongTown(String marked) {
        wrongTown(new RivalWeds(), marked);
        if (marked.length() <= MARKED_MOST) {
            wrongTown(new RivalWeds(), marked + ";x");
        }
    }

    private static void wrongLaw(String marked) {
        wrongLine(marked);
        if (marked.length() <= MARKED_MOST) {
            wrongLine(marked + ";x");
        }
    }

    /** The text is wrong just there, and the law of before stays. */
    private static void wrongLine(String marked) {
        RivalWeds x = Due.townOf(TWO);
        Due.law(x, "lift 3;lift 4");
        int fault = marked.indexOf('^');
        Due.tape(x, marked.substring(0, fault) + marked.substring(fault + 1));
        Due.refuses(x, marked, IllegalArgumentException.class, () -> x.law());
        Due.due("fault of " + marked, x.fault(), fault);
        Due.due("the law behind " + marked, x.match(0, 6), 7);
        Due.due("the tape is used up by " + marked, x.end(1), false);
    }

    private static void turns(RivalWeds x, String law, int due) {
        Due.law(x, law);
        Due.due("what it turns by " + law, x.match(0, 6), due);
    }

    private static void turns(String law, int due) {
        turns(Due.townOf(TWO), law, due);
    }

    private static String repeated(String one, String between, int times) {
        StringBuilder text = new StringBuilder(one);
        for (int i = 1; i < times; i++) {
            text.append(between).append(one);
        }
        return text.toString();
    }

    // ---- promise 1

    private static void newObject() {
        RivalWeds x = new RivalWeds();
        Due.says(1, "A town without PEOPLE");
        Due.due("people", x.count(0), 0);
        Due.bounds("the first one", () -> x.person(0, 0));
        Due.due("wealth of all", x.count(9), 0);
        Due.due("ruined ones", x.count(10), 0);
        Due.due("wed ones", x.count(11), 0);
        Due.says(1, "without PEOPLE: no MATCH, text, LAW, CLAIM, row, act, IMAGE, no byte on the TAPE");
        Due.due("matches", x.count(1), 0);
        Due.due("texts", x.count(2), 0);
        Due.due("law", x.count(3), -1);
        Due.due("claims", x.count(12), 0);
        Due.due("rows", x.count(13), 0);
        Due.due("acts", x.count(14), 0);
        Due.due("back", x.back(), false);
        Due.due("the tape", x.end(1), false);
        Due.due("fault", x.fault(), -1);
        Due.says(1, "BAR (20 at first), PREMIUM (1 at first), PAYS (10 at first)");
        Due.due("bar", x.count(6), 20);
        Due.due("premium", x.count(7), 1);
        Due.due("pays", x.count(8), 10);
        Due.says(1, "MONTH: 0 at first. QUARREL (0 at first). SEED 1 at first");
        Due.due("month", x.count(4), 0);
        Due.due("quarrel", x.count(5), 0);
        Due.due("seed", x.seed(1), 1);
        Due.says(1, "a LIKING of each other one (0 at first), ASKED (nobody at first), a REINSURER, or none; RUINED or not (not at first)");
        Due.town(x, "person 0;person 3");
        Due.due("liking", x.liking(0, 1), 0);
        Due.due("asked", x.person(0, 1), 0);
        Due.due("askers", x.person(1, 2), 0);
        Due.due("reinsurer", x.person(0, 3), -1);
        Due.due("not ruined by having nothing", x.person(0, 4), 0);
        Due.due("not wed", x.person(0, 5), -1);
        Due.says(1, "each object is a town of its own");
        Due.due("another one has no people", new RivalWeds().count(0), 0);
    }

    // ---- promise 2

    private static void feed() {
        Due.says(2, "Twenty bytes come behind the TAPE, of each number the highest first");
        RivalWeds x = new RivalWeds();
        Due.due("feed", x.feed(0x70657273, 0x6f6e2031, 0x323b7065, 0x72736f6e, 0x20333420), 20);
        Due.due("person 12;person 34", x.town(), 1);
        Due.due("of the third number", x.person(0, 0), 12);
        Due.due("of the fifth number", x.person(1, 0), 34);
        x.feed(0x70657273, 0x6f6e2020, 0x20202020, 0x20202020, 0x20202020);
        Due.due("behind what there is", x.feed(0x20202036, 0x20202020, 0x20202020, 0x20202020, 0x20202020), 40);
        Due.due("person, and 6 in the next twenty", x.town(), 2);
        Due.due("wealth", x.person(2, 0), 6);
        Due.says(2, "bytes: of negative numbers likewise");
        x.feed(0xff7fff80, 0, 0, 0, 0);
        x.end(3);
        Due.argument("from 255 to 127", () -> x.anniversary(false));
        x.feed(0x00ff0000, 0, 0, 0, 0);
        x.end(3);
        Due.argument("to 255", () -> x.anniversary(false));
        x.feed(0x62617220, 0xb0202020, 0, 0, 0);
        x.end(5);
        Due.argument("a figure with its highest bit set is none", () -> x.town());
        Due.due("it is a byte of its own", x.fault(), 4);
        Due.says(2, "how many it has; NONE, and none come, if it would have more than 400");
        for (int i = 1; i <= 19; i++) {
            Due.due("feed", x.feed(0x20202020, 0x20202020, 0x20202020, 0x20202020, 0x20202020), 20 * i);
        }
        Due.due("400 are not more than 400", x.feed(0x20202020, 0x20202020, 0x20202020, 0x70657273, 0x6f6e2037), 400);
        Due.due("420 are", x.feed(0, 0, 0, 0, 0), -1);
        Due.due("none came", x.end(401), false);
        Due.due("the 400 stand", x.end(400), true);
        Due.due("and are as they were", x.town(), 3);
        Due.due("person 7", x.person(3, 0), 7);
        for (int i = 381; i < 400; i++) {
            RivalWeds y = new RivalWeds();
            Due.tape(y, repeated(" ", "", i));
            Due.due("feed to " + i, y.feed(-1, -1, -1, -1, -1), -1);
            Due.due("none came", y.end(i + 1), false);
            Due.due("they are blanks", y.town(), 1);
        }
        RivalWeds y = new RivalWeds();
        Due.tape(y, repeated(" ", "", 380));
        Due.due("380 and 20", y.feed(0x20202020, 0x20202020, 0x20202020, 0x20202020, 0x20202020), 400);
    }

    // ---- promise 3

    private static void end() {
        Due.says(3, "The TAPE has its first n bytes alone: true");
        RivalWeds x = new RivalWeds();
        Due.due("0 of none", x.end(0), true);
        Due.tape(x, "bar 12x");
        Due.due("all it has", x.end(7), true);
        Due.due("7 still", x.end(8), false);
        Due.due("one less", x.end(6), true);
        Due.due("bar 12", x.town(), 1);
        Due.due("bar", x.count(6), 12);
        Due.tape(x, "bar 345678");
        x.end(5);
        Due.due("what comes then comes behind these", x.feed(0x34202020, 0x20202020, 0x20202020, 0x20202020, 0x20202020), 25);
        x.town();
        Due.due("bar 34", x.count(6), 34);
        Due.tape(x, "bar x");
        Due.due("none of it", x.end(0), true);
        Due.due("an empty text", x.town(), 3);
        Due.tape(x, "bar 567");
        x.end(5);
        Due.due("a number ends with the text", x.town(), 4);
        Due.due("bar 5", x.count(6), 5);
        Due.tape(x, "bars");
        x.end(3);
        Due.argument("a word, too", () -> x.town());
        Due.due("bar, and more must come", x.fault(), 3);
        Due.says(3, "false, and nothing happens, if it has fewer, or n is below 0");
        Due.tape(x, "bar 9");
        Due.due("one more", x.end(6), false);
        Due.due("-1", x.end(-1), false);
        Due.due("the least number", x.end(Integer.MIN_VALUE), false);
        Due.due("the greatest number", x.end(Integer.MAX_VALUE), false);
        Due.due("bar 9 stands", x.town(), 5);
        Due.due("bar", x.count(6), 9);
        Due.due("fewer than one", x.end(1), false);
    }

    // ---- promise 4

    private static void townTexts() {
        Due.says(4, "how many there are; texts (at most 12, one behind another); UnsupportedOperationException: there are 12");
        RivalWeds x = new RivalWeds();
        for (int i = 1; i <= 12; i++) {
            Due.due("text " + i, Due.town(x, i == 3 ? "person 3" : "bar " + i), i);
        }
        Due.due("what the third told stands", x.person(0, 0), 3);
        Due.tape(x, "person 5");
        Due.refuses(x, "the thirteenth", UnsupportedOperationException.class, () -> x.town());
        Due.due("its tape is used up", x.end(1), false);
        Due.refuses(x, "an empty one", UnsupportedOperationException.class, () -> x.town());
        Due.says(4, "Of several exceptions the one told first is thrown: it is wrong, and there are 12");
        Due.tape(x, "person 5;bar");
        Due.refuses(x, "a wrong thirteenth", IllegalArgumentException.class, () -> x.town());
        Due.due("its fault", x.fault(), 12);
        Due.says(4, "A text that is empty, or blanks alone, has no LINE");
        RivalWeds y = new RivalWeds();
        Due.due("an empty one counts", Due.town(y, ""), 1);
        Due.due("a blank", Due.town(y, " "), 2);
        Due.due("400 blanks", Due.town(y, repeated(" ", "", 400)), 3);
        Due.due("nothing is wrong with them", y.fault(), -1);
        Due.says(4, "Of a wrong text nothing stays");
        RivalWeds z = Due.townOf(Due.FIVE);
        wrongTown(z, "person 9;bar 7;premium 7;pays 7;likes 0 012345;asked 0 1;reinsured 0 1;wed 2 3 happy 7;^x");
        wrongTown(z, "person 9;likes 5 123456;asked 5 0;asked 0 5;reinsured 5 0;wed 5 4 happy 9;bar ^100");
        Due.town(z, "person 9");
        Due.due("not its askers", z.person(5, 2), 0);
        Due.due("nor its likings", z.liking(5, 0), 0);
        Due.due("nor its reinsurer", z.person(5, 3), -1);
    }

    private static void townLines() {
        Due.says(4, "LINE { ; LINE }, at most 14; of a LINE too many, the first word, or the text's length, if more must come");
        String thirteen = repeated("bar 1", ";", 13);
        Due.due("13 lines", Due.town(new RivalWeds(), thirteen), 1);
        RivalWeds x = new RivalWeds();
        Due.due("14 lines", Due.town(x, thirteen + ";bar 2"), 1);
        Due.due("the last one is read", x.count(6), 2);
        String fourteen = thirteen + ";bar 2";
        wrongTown(fourteen + ";^bar 3");
        wrongTown(fourteen + " ;  ^bar 3");
        wrongTown(fourteen + ";^bar 100");
        wrongTown(fourteen + ";^7");
        wrongTown(fourteen + ";^;");
        wrongTown(fourteen + ";^");
        wrongTown(fourteen + " ;  ^");
        wrongTown(fourteen + " ^bar 3");
        wrongTown(fourteen + ";^" + repeated("bar 1", ";", 50));
        Due.says(4, "LINE: the begin of the first thing that cannot stand there");
        wrongTown("^;");
        wrongTown("  ^;bar 1");
        wrongTown("bar 1;^;bar 1");
        wrongTown("bar 1 ; ^;");
        wrongTown("bar 1 ^bar 2");
        wrongTown("bar 1 ^2");
        wrongTown("bar 1^,bar 2");
        wrongTown("^7");
        wrongTown("^happy 7");
        wrongTown("^lift 1");
        wrongTown("^" + repeated(";", "", 400));
    }

    private static void peopleAndMatches() {
        Due.says(4, "PEOPLE (at most 8, numbered from 0 on); of a PERSON too many, the first word");
        RivalWeds x = Due.townOf(EIGHT);
        Due.due("8", x.count(0), 8);
        Due.due("the last one", x.person(7, 0), 7);
        wrongTown(x, "^person 1");
        wrongTown(Due.townOf(EIGHT), "bar 1; ^person 1000");
        wrongTown(Due.townOf(EIGHT), "^person");
        wrongTown(EIGHT + ";^person 1");
        wrongTown(Due.townOf(FIVE + ";person 5;person 6"), "person 1;^person 1");
        Due.says(4, "MATCHES (at most 20, numbered from 0 on, in the order in which they were wed); of a MATCH too many, the first word");
        RivalWeds y = Due.townOf("person 1;person 1");
        wedAndPart(y, 19);
        Due.due("those that are over count", y.count(1), 19);
        Due.town(y, "wed 1 0 happy 7");
        Due.due("the twentieth", y.count(1), 20);
        Due.due("its number is 19", y.match(19, 0), 1);
        Due.due("its happiness", y.match(19, 2), 7);
        RivalWeds z = Due.townOf("person 1;person 1");
        wedAndPart(z, 20);
        wrongTown(z, "bar 1; ^wed 0 1 happy 7");
        RivalWeds v = Due.townOf("person 1;person 1");
        wedAndPart(v, 20);
        wrongTown(v, "^wed 7");
        RivalWeds w = Due.townOf("person 1;person 1;person 1;person 1");
        wedAndPart(w, 19);
        Due.tape(w, "wed 0 1 happy 7;wed 2 3 happy 7");
        Due.argument("two, and a place for one", () -> w.town());
        Due.due("the first word of the second", w.fault(), 16);
        Due.due("none of both is wed", w.count(1), 19);
    }

    private static void wedAndPart(RivalWeds x, int times) {
        for (int i = 0; i < times; i++) {
            x.part(x.wed(0, 1));
        }
    }

    private static void numbers() {
        Due.says(4, "N of person: WEALTH 0 to 999");
        RivalWeds x = Due.townOf("person 0;person 999");
        Due.due("0", x.person(0, 0), 0);
        Due.due("999", x.person(1, 0), 999);
        wrongTown("person ^1000");
        wrongTown("person ^-1");
        Due.says(4, "BAR 0 to 99");
        atMost("bar ", 99, 6);
        Due.says(4, "PREMIUM 0 to 20");
        atMost("premium ", 20, 7);
        Due.says(4, "PAYS 0 to 99");
        atMost("pays ", 99, 8);
        Due.says(4, "HAPPY 0 to 99");
        RivalWeds y = Due.townOf("person 1;person 1;person 1;person 1;wed 0 1 happy 0;wed 3 2 happy 99");
        Due.due("0", y.match(0, 2), 0);
        Due.due("0 is not over by that", y.match(0, 4), 0);
        Due.due("99", y.match(1, 2), 99);
        wrongTown("person 1;person 1;wed 0 1 happy ^100");
        wrongTown("person 1;person 1;wed 0 1 happy ^-1");
        Due.says(4, "Numbers are of 1 to 3 digits: a number of more digits is wrong");
        RivalWeds z = Due.townOf("person 007;person 042;asked 001 000;reinsured 00 01;wed 01 000 happy 009;bar 007;premium 003;pays 000");
        Due.due("007", z.person(0, 0), 7);
        Due.due("042", z.person(1, 0), 42);
        Due.due("asked 001", z.person(1, 1), 1);
        Due.due("reinsured 00", z.person(0, 3), 1);
        Due.due("wed 01", z.match(0, 0), 1);
        Due.due("happy 009", z.match(0, 2), 9);
        Due.due("bar 007", z.count(6), 7);
        Due.due("premium 003", z.count(7), 3);
        Due.due("pays 000", z.count(8), 0);
        Due.town(z, "likes 000 05");
        Due.due("likes 000", z.liking(0, 1), 5);
        String[] wrong = {"person ^0007", "person ^00000000000000000000000000000001", "person ^99999999999999999999",
            "person ^4294967297", "bar ^0020", "premium ^0001", "pays ^0000", "person 1;likes ^0000 0",
            "person 1;person 1;asked ^0000 1", "person 1;person 1;asked 0 ^0001", "person 1;person 1;reinsured ^0000 1",
            "person 1;person 1;reinsured 0 ^0001", "person 1;person 1;wed ^0000 1 happy 1",
            "person 1;person 1;wed 0 ^0001 happy 1", "person 1;person 1;wed 0 1 happy ^0001"};
        for (String one : wrong) {
            wrongTown(one);
        }
    }

    private static void atMost(String word, int most, int count) {
        RivalWeds x = new RivalWeds();
        Due.town(x, word + "0");
        Due.due(word + "0", x.count(count), 0);
        Due.town(x, word + most);
        Due.due(word + most, x.count(count), most);
        wrongTown(x, word + "^" + (most + 1));
        wrongTown(word + "^-1");
        wrongTown(word + "^999");
    }

    private static void whoThereIs() {
        Due.says(4, "H: a PERSON that there is by then");
        String[] lines = {"likes ^0 0", "asked ^0 1", "reinsured ^0 1", "wed ^0 1 happy 1"};
        String[] seconds = {"asked 0 ^1", "reinsured 0 ^1", "wed 0 ^1 happy 1"};
        for (String line : lines) {
            wrongTown(line);
            wrongTown(line + ";person 1;person 1");
            wrongTown("person 1;person 1;" + line.replace("^0", "^2"));
            wrongTown("person 1;person 1;" + line.replace("^0", "^999"));
            wrongTown(Due.townOf(EIGHT), line.replace("^0", "^8"));
        }
        for (String line : seconds) {
            wrongTown("person 1;" + line);
            wrongTown("person 1;" + line + ";person 1");
            wrongTown("person 1;person 1;" + line.replace("^1", "^2"));
            wrongTown(Due.townOf(EIGHT), line.replace("^1", "^8"));
        }
        RivalWeds x = Due.townOf("person 1;person 1;asked 1 0");
        Due.town(x, "person 1;asked 2 1;reinsured 0 2;likes 2 120;wed 2 0 happy 1");
        Due.due("of the text itself and of those before", x.person(1, 2), 4);
        Due.due("reinsured", x.person(0, 3), 2);
        Due.due("liking", x.liking(2, 1), 2);
        Due.due("wed", x.person(0, 5), 2);
        Due.town(x, FIVE + ";asked 7 0;asked 0 7");
        Due.due("the last one", x.person(0, 1), 128);
        Due.says(4, "the second not the first one, else it is wrong");
        for (String line : new String[] {"asked 1 ^1", "reinsured 1 ^1", "wed 1 ^1 happy 1", "asked 1 ^01", "wed 00 ^0 happy 1"}) {
            wrongTown("person 1;person 1;" + line);
        }
    }

    private static void figures() {
        Due.says(4, "F: as many figures as there are PEOPLE by then; figures that are not just so many are wrong");
        wrongTown("person 1;likes 0 ^00");
        wrongTown("person 1;likes ^9");
        wrongTown("person 1;person 1;likes 0 ^0");
        wrongTown("person 1;person 1;likes 0 ^000");
        wrongTown("person 1;person 1;likes 0 ^0 0");
        wrongTown("person 1;person 1;likes 0 00 ^0");
        wrongTown("person 1;person 1;likes 0 ^000;person 1");
        wrongTown(Due.townOf(EIGHT), "likes 0 ^1234567");
        wrongTown(Due.townOf(EIGHT), "likes 0 ^123456789");
        RivalWeds x = Due.townOf("person 1;likes 0 5;person 1;likes 0 67;person 1;likes 2 890");
        Due.due("of two", x.liking(0, 1), 7);
        Due.due("of who came then", x.liking(0, 2), 0);
        Due.due("of three", x.liking(2, 1), 9);
        Due.says(4, "figures 0 to 9, the LIKING of each by numbers");
        RivalWeds eight = Due.townOf(EIGHT);
        Due.town(eight, "likes 7 90123458;likes 0 98765432");
        int[] due = {9, 0, 1, 2, 3, 4, 5};
        for (int other = 0; other < 7; other++) {
            Due.due("liking(7, " + other + ")", eight.liking(7, other), due[other]);
            Due.due("liking(0, " + (other + 1) + ")", eight.liking(0, other + 1), 8 - other);
        }
        wrongTown("person 1;person 1;likes 0 ^ab");
        wrongTown("person 1;person 1;likes 0 ^0a");
        wrongTown("person 1;person 1;likes 0 ^-1");
        Due.says(4, "one's own not looked at");
        RivalWeds y = Due.townOf("person 1;person 1;likes 1 29;likes 0 93");
        Due.due("of another", y.liking(1, 0), 2);
        Due.due("not by one's own", y.liking(0, 1), 3);
        Due.due("rather", y.rather(1), 1);
        Due.argument("oneself", () -> y.liking(0, 0));
    }

    private static void weds() {
        Due.says(4, "wed: none of both is WED by then, else that H is wrong");
        String three = "person 1;person 1;person 1;wed 0 1 happy 9;";
        wrongTown(three + "wed ^0 2 happy 9");
        wrongTown(three + "wed ^1 2 happy 9");
        wrongTown(three + "wed 2 ^0 happy 9");
        wrongTown(three + "wed 2 ^1 happy 9");
        wrongTown(three + "wed ^0 1 happy 9");
        wrongTown(three + "wed ^1 0 happy 9");
        wrongTown(three + "wed ^0 0 happy 9");
        wrongTown(Due.townOf(three + "bar 1"), "wed 2 ^1 happy 9");
        wrongTown(three + "wed 2 ^happy 9");
        wrongTown(three + "wed ^happy 9");
        RivalWeds x = Due.townOf(three + "bar 1");
        x.part(0);
        Due.town(x, "wed 2 1 happy 9");
        Due.due("of one that is over one may be wed", x.person(1, 5), 2);
        Due.says(4, "two PEOPLE, HAPPY 0 to 99, MONTHS since then: none at first");
        Due.due("months", x.match(1, 3), 0);
        Due.due("its first one", x.match(1, 0), 2);
        Due.due("its second one", x.match(1, 1), 1);
        Due.due("not over", x.match(1, 4), 0);
    }

    private static void words() {
        Due.says(4, "Words are as long as a to z go on; a word that is none is wrong");
        RivalWeds x = Due.townOf("person1;person2;wed0 1happy3;bar4;premium5;pays6;asked0 1;reinsured1 0;likes0 07");
        Due.due("numbers may stand at once behind them", x.count(6) + x.count(7) + x.count(8), 15);
        Due.due("and ahead of them", x.match(0, 2), 3);
        String[] wrong = {"^barx 1", "^xbar 1", "^barz 1", "^zbar 1", "^bara 1", "^abar 1", "^ba 1", "^ba r 1", "^Bar 1", "^baR 1", "^b", "^persons 1", "^premiums 1",
            "^pay 1", "^wedhappy", "^like 0 0", "bar ^x", "bar ^bar 1", "bar 1^x", "bar 1^bar", "person 1;person 1;wed 0 1 ^happ 1",
            "person 1;person 1;wed 0 1 ^happyx 1", "person 1;person 1;wed 0 1 ^bar 1", "person 1;person 1;wed 0 1 ^5",
            "^" + repeated("a", "", 400), "^barbar 1", "^z{", "^{bar 1", "^`bar 1", "bar 1^/", "bar 1^:", "bar ^/", "bar ^:",
            "person 1;person 1;asked ^x 1", "person 1;person 1;asked 0 ^x", "person 1;person 1;wed ^happy 1"};
        for (String one : wrong) {
            wrongTown(one);
        }
        Due.says(4, "between all there may be blanks (32), also ahead and behind");
        RivalWeds y = Due.townOf("   person   8  ;  person 9   ; wed  0   1   happy   7  ;likes  0  07 ; bar  9   ");
        Due.due("blanks", y.count(0) + y.match(0, 2) + y.count(6) + y.liking(0, 1), 25);
        Due.due("none are needed", Due.town(y, "asked0 1;pays7;asked 1 0"), 2);
        for (int sign : new int[] {0, 9, 10, 13, 31, 33, 127, 128, 160, 255}) {
            wrongTown("^" + (char) sign + "bar 1");
            wrongTown("bar^" + (char) sign + "1");
            wrongTown("bar 1^" + (char) sign);
        }
        Due.says(4, "a number is a thing of its own: blanks end it");
        wrongTown("bar 1 ^2");
        wrongTown("person 1;person 1;asked 01^");
        wrongTown("person 1;person 1;asked 0^;");
    }

    private static void moreMustCome() {
        Due.says(4, "the first wrong byte: the text's length, if more must come");
        String[] begins = {"person", "likes", "likes 0", "asked", "asked 0", "reinsured", "reinsured 0", "wed", "wed 0",
            "wed 0 1", "wed 0 1 happy", "bar", "premium", "pays"};
        for (String begin : begins) {
            String text = "person 1;person 1;" + begin;
            wrongTown(text + "^");
            wrongTown(text + "  ^");
            wrongTown(text + "^;");
            wrongTown(text + " ^;bar 1");
        }
        wrongTown("bar 1;^");
        wrongTown("bar 1;   ^");
        String most = "person 1" + repeated(" ", "", 391) + ";";
        wrongTown(most + "^");
        Due.due("a text of 400 bytes", Due.town(new RivalWeds(), most.replace(';', ' ')), 1);
    }

    // ---- promise 5

    private static void lawLines() {
        Due.says(5, "how many LINES; LINE { ; LINE }, at most 12; of a LINE too many, the first word");
        RivalWeds x = Due.townOf(TWO);
        Due.due("one", Due.law(x, "lift 1"), 1);
        Due.due("11", Due.law(x, repeated("lift 1", ";", 11)), 11);
        String twelve = repeated("lift 30", ";", 12);
        Due.due("12", Due.law(x, twelve), 12);
        Due.due("all are looked at", x.match(0, 6), 360);
        Due.law(x, twelve.replace("lift", "sour"));
        Due.due("all sour", x.match(0, 6), -360);
        wrongLaw(twelve + ";^lift 1");
        wrongLaw(twelve + "  ; ^sour 31");
        wrongLaw(twelve + ";^x");
        wrongLaw(twelve + ";^");
        wrongLaw(twelve + "; ^");
        wrongLaw(twelve + " ^lift 1");
        Due.says(5, "A text that is empty, or blanks alone, has no LINE");
        Due.due("empty", Due.law(x, ""), 0);
        Due.due("it is a law", x.count(3), 0);
        Due.due("it turns by nothing", x.match(0, 6), 0);
        Due.law(x, "lift 1");
        Due.due("400 blanks", Due.law(x, repeated(" ", "", 400)), 0);
        Due.due("it turns by nothing", x.match(0, 6), 0);
        Due.says(5, "in place of the one before");
        Due.law(x, "lift 1 if happy > 0;lift 2;lift 4");
        Due.due("of three one", Due.law(x, "lift 8"), 1);
        Due.due("one", x.count(3), 1);
        Due.due("it alone", x.match(0, 6), 8);
        turns(x, "lift 1 if not 1<2 and not 1<2", 0);
        turns(x, "lift 1 if 1<2", 1);
        turns(x, "lift 1 if insured or rich", 1);
        turns(x, "lift 1 if insured", 0);
        turns(x, "lift 1 if not rich", 0);
        turns(x, "lift 1 if rich", 1);
        Due.says(5, "Of a wrong text nothing stays");
        wrongLaw("lift 9;lift 9;lift 9;^");
        wrongLaw("sour 9 if happy > 0;^bar 1");
        Due.says(5, "Without a text: its liking less QUARREL, below 0, too");
        RivalWeds y = Due.townOf(TWO);
        Due.due("13 less 0", y.match(0, 6), 13);
        y.months(1);
        Due.due("13 less 8", y.match(0, 6), 5);
        Due.town(y, "likes 0 00;likes 1 00");
        Due.due("0 less 8", y.match(0, 6), -8);
        wrongText();
    }

    private static void wrongText() {
        Due.says(5, "a refused LAW leaves none, if there was none");
        RivalWeds x = Due.townOf(TWO);
        Due.tape(x, "lift 1;lift");
        Due.refuses(x, "lift 1;lift", IllegalArgumentException.class, () -> x.law());
        Due.due("none", x.count(3), -1);
        Due.due("its liking", x.match(0, 6), 13);
    }

    private static void lawNumbers() {
        Due.says(5, "N 0 to 30");
        turns("lift 0", 0);
        turns("lift 30", 30);
        turns("sour 0", 0);
        turns("sour 30", -30);
        turns("lift 030", 30);
        wrongLaw("lift ^31");
        wrongLaw("sour ^31");
        wrongLaw("lift ^999");
        wrongLaw("lift ^-1");
        wrongLaw("lift ^0030");
        wrongLaw("lift ^0001 if rich");
        Due.says(5, "All numbers are of 1 to 3 digits");
        turns("lift 1 if 999 > 998", 1);
        turns("lift 1 if 000 < 1", 1);
        turns("lift 1 if 010 < 10", 0);
        wrongLaw("lift 1 if 999 + 999 + 999 > ^2996");
        turns("lift 1 if 999 + 999 + 999 > 999 + 999 + 998", 1);
        turns("lift 1 if 999 + 999 + 999 > 999 + 999 + 999", 0);
        wrongLaw("lift 1 if ^1000 > 1");
        wrongLaw("lift 1 if 1 < ^1000");
        wrongLaw("lift 1 if 1 + ^0001 > 1");
        wrongLaw("lift 1 if ^0000 < 1");
        wrongLaw("lift 1 if happy < ^99999999999");
    }

    private static void lawWords() {
        Due.says(5, "Words are as long as a to z go on; a word that is none is wrong");
        turns("lift1if happy>24and happy<26or rich", 1);
        turns("lift1if(insured)or(not(insured))", 1);
        wrongLaw("^lifts 1");
        wrongLaw("^lif 1");
        wrongLaw("^Lift 1");
        wrongLaw("^person 1");
        wrongLaw("^if rich");
        wrongLaw("^1");
        wrongLaw("lift ^if");
        wrongLaw("lift 1 ^iff rich");
        wrongLaw("lift 1 ^ifrich");
        wrongLaw("lift 1 ^rich");
        wrongLaw("lift 1 ^1");
        wrongLaw("lift 1 if ^notrich");
        wrongLaw("lift 1 if ^riches");
        wrongLaw("lift 1 if ^insurer > 1");
        wrongLaw("lift 1 if ^bar > 1");
        wrongLaw("lift 1 if rich ^an rich");
        wrongLaw("lift 1 if rich ^andrich");
        wrongLaw("lift 1 if rich and ^orrich");
        Due.says(5, "between all there may be blanks (32), also ahead and behind");
        turns("  lift  1  if  (  not  insured  )  and  happy  +  1  >  25  ;  lift  2  ", 3);
        for (int sign : new int[] {0, 9, 10, 31, 33, 127, 255}) {
            wrongLaw("lift^" + (char) sign + "1");
            wrongLaw("lift 1^" + (char) sign);
        }
        Due.says(5, "of a LINE the first word");
        wrongLaw("^;");
        wrongLaw("lift 1;^;");
        wrongLaw("lift 1;^bar 1");
        Due.says(5, "the text's length, if more must come");
        String[] begins = {"lift", "sour", "lift 1 if", "lift 1 if not", "lift 1 if (", "lift 1 if (rich", "lift 1 if rich and",
            "lift 1 if rich or", "lift 1 if happy", "lift 1 if 1", "lift 1 if happy +", "lift 1 if happy <", "lift 1 if happy >",
            "lift 1 if happy < 1 +", "lift 1 if not (rich and not"};
        for (String begin : begins) {
            wrongLaw(begin + "^");
            wrongLaw(begin + "   ^");
            wrongLaw(begin + "^;");
        }
        wrongLaw("lift 1;^");
        wrongLaw("lift 1; ^");
    }

    private static void lawConditions() {
        Due.says(5, "C: ALL { or ALL }; ALL: ATOM { and ATOM }; ATOM: not ATOM");
        turns("lift 1 if 1<2 or 1<2 and 2<1", 1);
        turns("lift 1 if 2<1 and 2<1 or 1<2", 1);
        turns("lift 1 if (1<2 or 1<2) and 2<1", 0);
        turns("lift 1 if 2<1 and (2<1 or 1<2)", 0);
        turns("lift 1 if not 2<1 and 1<2", 1);
        turns("lift 1 if not 1<2 or 1<2", 1);
        turns("lift 1 if not (1<2 or 1<2)", 0);
        turns("lift 1 if not 2<1 and 2<1", 0);
        turns("lift 1 if 2<1 or 2<1 or 1<2", 1);
        turns("lift 1 if 1<2 and 1<2 and 2<1", 0);
        turns("lift 1 if not not 1<2", 1);
        Due.says(5, "SUM < SUM, SUM > SUM; SUM: PART { + PART }");
        turns("lift 1 if 5 < 5", 0);
        turns("lift 1 if 4 < 5", 1);
        turns("lift 1 if 5 < 4", 0);
        turns("lift 1 if 5 > 5", 0);
        turns("lift 1 if 5 > 4", 1);
        turns("lift 1 if 4 > 5", 0);
        turns("lift 1 if 1+2+3 > 5 and 1+2+3 < 7", 1);
        turns("lift 1 if 5 < 1+2+3 and 7 > 1+2+3", 1);
        wrongLaw("lift 1 if 1 < 2 ^< 3");
        wrongLaw("lift 1 if 1 < 2 ^> 1");
        wrongLaw("lift 1 if 1 ^= 1");
        wrongLaw("lift 1 if 1 <^= 1");
        wrongLaw("lift 1 if ^+ 1 < 2");
        wrongLaw("lift 1 if 1 + ^+ 1 < 2");
        wrongLaw("lift 1 if 1 ^- 1 < 2");
        wrongLaw("lift 1 if 1 ^2 < 3");
        wrongLaw("lift 1 if ^< 3");
        wrongLaw("lift 1 if ^> 3 and rich");
        wrongLaw("lift 1 if 1 ^and rich");
        wrongLaw("lift 1 if rich ^< 1");
        wrongLaw("lift 1 if insured ^+ 1 > 1");
        wrongLaw("lift 1 if 1 > ^rich");
        wrongLaw("lift 1 if 1 > ^not 1");
        wrongLaw("lift 1 if (1 ^) < 2");
        wrongLaw("lift 1 if (rich) ^(rich)");
        wrongLaw("lift 1 if rich ^)");
        wrongLaw("lift 1 if (rich ^;lift 1)");
        wrongLaw("lift 1 if (^)");
        wrongLaw("lift 1 if rich ^not rich");
        wrongLaw("lift 1 if rich ^if rich");
        Due.says(5, "TURNS by: the sum of N of all lift LINES that hold, less that of all sour LINES");
        turns("lift 1;lift 2 if 1<2;lift 4 if 2<1;sour 8;sour 16 if 2<1;sour 3 if 1<2", -8);
        String parts = "lift 1 if " + repeated("1", "+", 190);
        turns(parts + " < 191", 1);
        turns(parts + " < 190", 0);
        turns(parts + ">189", 1);
        wrongLaw(parts + "^");
    }

    private static void lawPlaces() {
        Due.says(5, "insurers: how many INSURERS it has; insured: it has some");
        RivalWeds x = Due.townOf("person 50;person 49;person 1;person 1;person 1;asked 2 0;wed 0 1 happy 0");
        String law = "lift 1 if insured;lift 2 if insurers < 1;lift 4 if insurers > 1;lift 8 if insurers > 2";
        turns(x, law, 2);
        x.ask(3, 1);
        turns(x, law, 5);
        x.ask(4, 0);
        turns(x, law, 13);
        turns(x, "lift 1 if insured and 1<2;lift 2 if insured and insured;lift 4 if not insured or 2<1", 3);
        Due.law(x, law);
        x.part(0);
        Due.due("over it has none", x.match(0, 6), 2);
        Due.says(5, "rich: WEALTH of both together is above 99");
        turns(Due.townOf("person 50;person 49;wed 0 1 happy 0"), "lift 1 if rich", 0);
        turns(Due.townOf("person 50;person 50;wed 0 1 happy 0"), "lift 1 if rich", 1);
        turns(Due.townOf("person 99;person 0;person 99;wed 0 1 happy 0"), "lift 1 if rich", 0);
        turns(Due.townOf("person 0;person 100;wed 0 1 happy 0"), "lift 1 if rich", 1);
        turns(Due.townOf("person 0;person 100;wed 0 1 happy 0"), "lift 1 if rich and 1<2;lift 2 if rich and rich", 3);
        Due.says(5, "liking: that of both for one another, together");
        RivalWeds y = Due.townOf("person 1;person 1;person 1;likes 0 092;likes 1 903;likes 2 990;wed 1 0 happy 0;bar 0");
        turns(y, "lift 1 if liking < 19 and liking > 17;lift 2 if liking < 18;lift 4 if liking > 18", 1);
        Due.says(5, "month: MONTH modulo 12");
        String months = "lift 1 if month > 10;lift 2 if month < 1;lift 4 if month < 2 and month > 0";
        turns(y, months, 2);
        y.months(11);
        turns(y, months, 1);
        y.months(1);
        turns(y, months, 2);
        y.months(1);
        turns(y, months, 4);
        y.months(10);
        turns(y, months, 1);
        y.months(1);
        turns(y, months, 2);
        Due.says(5, "months: MONTHS since then, not modulo 12");
        RivalWeds z = Due.townOf("person 1;person 1;bar 0;wed 0 1 happy 99");
        turns(z, "lift 0 if months > 11", 0);
        z.months(12);
        turns(z, "lift 1 if months > 11;lift 2 if months > 12", 1);
        Due.says(5, "quarrel: QUARREL, or the one that is looked at");
        z.seed(1);
        z.months(1);
        turns(z, "lift 1 if quarrel < 9 and quarrel > 7", 1);
        Due.law(z, "sour 30 if quarrel > 8;sour 20 if quarrel < 1");
        Due.due("the one looked at, 9", z.next(0, 9), z.match(0, 2) - 30);
        Due.due("the one looked at, 0", z.next(0, 0), z.match(0, 2) - 20);
        Due.due("the one looked at, 8", z.next(0, 8), z.match(0, 2));
        Due.says(5, "happy: HAPPY as it is");
        turns("lift 1 if happy < 26 and happy > 24", 1);
    }

    private static void depth() {
        Due.says(5, "( and not within one another at most 6 deep; wrong is the ( or not that is a 7th one deep");
        turns("lift 1 if ((((((1<2))))))", 1);
        turns("lift 1 if not not not not not not 1<2", 1);
        turns("lift 1 if (not(not(not 1<2)))", 0);
        turns("lift 1 if not(not(not(1<2)))", 0);
        wrongLaw("lift 1 if ((((((^(1<2)))))))");
        wrongLaw("lift 1 if not not not not not not ^not 1<2");
        wrongLaw("lift 1 if ((((((^not 1<2))))))");
        wrongLaw("lift 1 if not not not not not not ^(1<2)");
        wrongLaw("lift 1 if not(not(not(^not 1<2)))");
        wrongLaw("lift 1 if (((((( ^(");
        wrongLaw("lift 1 if rich or ((((((rich and ^not rich))))))");
        Due.says(5, "within one another: side by side they are not");
        turns("lift 1 if " + repeated("not 2<1", " and ", 8), 1);
        turns("lift 1 if " + repeated("(1<2)", " and ", 8), 1);
        turns("lift 1 if ((((((1<2)))))) and ((((((1<2)))))) and not ((((( 2<1 )))))", 1);
        turns("lift 1 if not not not not not not 1<2 and not not not not not not 1<2", 1);
        turns("lift 1 if ((((((1<2))))))" + ";lift 2 if ((((((1<2))))))", 3);
        Due.says(5, "the ( or not of a 7th one deep comes ahead of what is wrong behind it");
        wrongLaw("lift 1 if ((((((^()))))))");
        wrongLaw("lift 1 if ((((((^)");
    }

    // ---- promise 6

    private static void fault() {
        Due.says(6, "NONE ahead of any");
        RivalWeds x = new RivalWeds();
        Due.due("new", x.fault(), -1);
        Due.tape(x, "bar x");
        Due.due("not read yet", x.fault(), -1);
        Due.says(6, "The first wrong byte of the latest text that was read");
        Due.argument("bar x", () -> x.town());
        Due.due("4", x.fault(), 4);
        Due.tape(x, "lift");
        Due.argument("lift", () -> x.law());
        Due.due("the text's length", x.fault(), 4);
        Due.tape(x, "bar 12 x");
        Due.argument("bar 12 x", () -> x.law());
        Due.due("as a law it is wrong at once", x.fault(), 0);
        Due.tape(x, "bar 12 x");
        Due.argument("bar 12 x", () -> x.town());
        Due.due("as a town behind it", x.fault(), 7);
        Due.says(6, "a text is read (not an ANNIVERSARY, a DANCE)");
        Due.bytes(x, 0, 0, 0);
        Due.argument("a row of nobody", () -> x.anniversary(false));
        Due.due("stays", x.fault(), 7);
        x.dance();
        Due.due("stays", x.fault(), 7);
        Due.says(6, "all is as ahead of it (but for fault())");
        x.image();
        x.months(1);
        x.undo();
        Due.due("stays by undo", x.fault(), 7);
        x.back();
        Due.due("stays by back", x.fault(), 7);
        Due.says(6, "NONE without one");
        Due.town(x, "");
        Due.due("a right town", x.fault(), -1);
        Due.argument("wrong", () -> law(x, "x"));
        Due.due("0 is a fault", x.fault(), 0);
        Due.law(x, "lift 1");
        Due.due("a right law", x.fault(), -1);
        x.back();
        Due.due("back", x.fault(), -1);
        Due.says(6, "fault(), where a text is read (also by one that is refused)");
        for (int i = 1; i <= 12; i++) {
            Due.town(x, "");
        }
        Due.argument("wrong", () -> law(x, " x"));
        Due.due("1", x.fault(), 1);
        Due.unsupported("a right thirteenth", () -> x.town());
        Due.due("it has no wrong byte", x.fault(), -1);
    }

    private static long law(RivalWeds x, String text) {
        Due.tape(x, text);
        return x.law();
    }
}
