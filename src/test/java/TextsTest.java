/** Promises 1 to 6: a new object, the tape, the texts of the town and of the law, the first wrong byte. */
final class TextsTest {
    public static void main(String[] args) {
        newObject();
        feedAndEnd();
        townLines();
        townLimits();
        townFaults();
        lawLines();
        lawFaults();
        deep();
        tapeIsUsedUp();
        Due.close("TextsTest");
    }

    private static void newObject() {
        RivalWeds x = new RivalWeds();
        int[] due = {0, 0, 0, -1, 0, 0, 20, 1, 10, 0, 0, 0, 0, 0, 0};
        for (int what = 0; what < due.length; what++) {
            Due.due("new: count(" + what + ")", x.count(what), due[what]);
        }
        Due.due("new: fault", x.fault(), -1);
        Due.due("new: undo", x.undo(), false);
        Due.due("new: back", x.back(), false);
        Due.due("new: seed", x.seed(7), 1);
        Due.bounds("new: person", () -> x.person(0, 0));
        Due.bounds("new: match", () -> x.match(0, 0));
    }

    private static void feedAndEnd() {
        RivalWeds x = new RivalWeds();
        Due.due("end(0) of none", x.end(0), true);
        Due.due("end(1) of none", x.end(1), false);
        Due.due("end(-1)", x.end(-1), false);
        for (int i = 1; i <= 20; i++) {
            Due.due("feed " + i, x.feed(0x20202020, 0x20202020, 0x20202020, 0x20202020, 0x20202020), 20 * i);
        }
        Due.due("feed above 400", x.feed(1, 1, 1, 1, 1), -1);
        Due.due("blanks alone", x.town(), 1);
        Due.due("after the text the tape is empty", x.feed(0x70657273, 0x6f6e2037, 0, 0, 0), 20);
        Due.due("end(21)", x.end(21), false);
        Due.due("end(8)", x.end(8), true);
        Due.due("end(9)", x.end(9), false);
        Due.due("person 7", x.town(), 2);
        Due.due("person(0,0)", x.person(0, 0), 7);
        for (int i = 1; i <= 20; i++) {
            x.feed(i, i, i, i, i);
        }
        x.end(381);
        Due.due("feed to 401", x.feed(1, 1, 1, 1, 1), -1);
        x.end(380);
        Due.due("feed to 400", x.feed(1, 1, 1, 1, 1), 400);
        x.end(0);
        x.feed(-1, -2, 0x80000000, 0x7fffffff, 255);
        Due.argument("high bytes", () -> x.law());
        Due.due("the first of them is wrong", x.fault(), 0);
    }

    private static void townLines() {
        RivalWeds x = Due.townOf(Due.FIVE);
        Due.due("people", x.count(0), 5);
        Due.due("matches", x.count(1), 1);
        Due.due("texts", x.count(2), 1);
        Due.due("wealth", x.person(3, 0), 50);
        Due.due("liking 0 1", x.liking(0, 1), 9);
        Due.due("liking 1 3", x.liking(1, 3), 5);
        Due.due("liking 1 0", x.liking(1, 0), 4);
        Due.due("asked", x.person(2, 1), 1);
        Due.due("askers", x.person(0, 2), 20);
        Due.due("reinsurer", x.person(4, 3), 2);
        Due.due("no reinsurer", x.person(0, 3), -1);
        Due.due("happy", x.match(0, 2), 25);
        Due.due("one behind another", Due.town(x, " bar 0 ; premium 20;pays 99 ;person 999 ; asked 5 2;asked 2 5"), 2);
        Due.due("bar", x.count(6), 0);
        Due.due("premium", x.count(7), 20);
        Due.due("pays", x.count(8), 99);
        Due.due("sixth", x.person(5, 0), 999);
        Due.due("asked both", x.person(2, 1), 33);
        Due.due("its likings", x.liking(5, 0), 0);
        Due.due("likes again, own figure not looked at", Due.town(x, "likes 0 912345"), 3);
        Due.due("liking 0 5", x.liking(0, 5), 5);
        Due.due("liking 0 1", x.liking(0, 1), 1);
        Due.due("no blanks", Due.town(x, "bar7;wed2 3happy0;pays 000;person 042"), 4);
        Due.due("bar 7", x.count(6), 7);
        Due.due("happy 0 goes on", x.match(1, 4), 0);
        Due.due("spouse", x.person(3, 5), 2);
        Due.due("042", x.person(6, 0), 42);
        Due.due("reinsured in place of the one before", Due.town(x, "reinsured 2 0"), 5);
        Due.due("reinsurer", x.person(2, 3), 0);
        Due.due("empty", Due.town(x, ""), 6);
        RivalWeds y = Due.townOf("person 1;person 1;likes 0 05;person 1");
        Due.due("of one who came behind 0", y.liking(0, 2), 0);
        Due.town(y, "likes 2 370;person 1;likes 1 3004");
        Due.due("likes 2", y.liking(2, 1), 7);
        Due.due("likes 1", y.liking(1, 3), 4);
        Due.due("not the other way", y.liking(3, 1), 0);
    }

    private static void townLimits() {
        RivalWeds x = new RivalWeds();
        StringBuilder text = new StringBuilder("bar 0");
        for (int i = 1; i < 14; i++) {
            text.append(";bar ").append(i);
        }
        Due.due("14 lines", Due.town(x, text.toString()), 1);
        Due.due("bar", x.count(6), 13);
        wrong(x, text + "  ;  bar 1", text.length() + 5);
        wrong(x, text + ";", text.length() + 1);
        wrong(x, text + ";5", text.length() + 1);
        wrong(x, text + " 5", text.length() + 1);
        Due.due("8 people", Due.town(x, "person 0;person 1;person 2;person 3;person 4;person 5;person 6;person 7"), 2);
        wrong(x, "bar 1; person 8", 7);
        Due.due("bar is as before", x.count(6), 13);
        for (int i = 0; i < 20; i++) {
            x.wed(0, 1);
            x.part(i);
        }
        wrong(x, "bar 1; wed 2 3 happy 1", 7);
        for (int i = 3; i <= 12; i++) {
            Due.due("text " + i, Due.town(x, "bar " + i), i);
        }
        Due.tape(x, "bar x");
        Due.argument("wrong comes ahead of too many", () -> x.town());
        Due.due("fault", x.fault(), 4);
        Due.tape(x, "bar 99");
        Due.unsupported("13th text", () -> x.town());
        Due.due("it was not wrong", x.fault(), -1);
        Due.due("texts", x.count(2), 12);
        Due.due("bar", x.count(6), 12);
        Due.due("its tape is used up", x.feed(0, 0, 0, 0, 0), 20);
    }

    private static void wrong(RivalWeds x, String text, int fault) {
        int people = x.count(0);
        int matches = x.count(1);
        int texts = x.count(2);
        Due.tape(x, text);
        Due.argument("town: " + text, () -> x.town());
        Due.due("fault of " + text, x.fault(), fault);
        Due.due("people behind " + text, x.count(0), people);
        Due.due("matches behind " + text, x.count(1), matches);
        Due.due("texts behind " + text, x.count(2), texts);
    }

    private static void townFaults() {
        wrong(new RivalWeds(), ";", 0);
        wrong(new RivalWeds(), " ; person 1", 1);
        wrong(new RivalWeds(), "person", 6);
        wrong(new RivalWeds(), "person  ", 8);
        wrong(new RivalWeds(), "person 1000", 7);
        wrong(new RivalWeds(), "person 0001", 7);
        wrong(new RivalWeds(), "person 1;", 9);
        wrong(new RivalWeds(), "person 1; ", 10);
        wrong(new RivalWeds(), "person 1;;", 9);
        wrong(new RivalWeds(), "person 1 2", 9);
        wrong(new RivalWeds(), "person -1", 7);
        wrong(new RivalWeds(), "persons 1", 0);
        wrong(new RivalWeds(), "Person 1", 0);
        wrong(new RivalWeds(), "personz 1", 0);
        wrong(new RivalWeds(), "apays 1", 0);
        wrong(new RivalWeds(), "person ;x", 7);
        wrong(new RivalWeds(), "likes ;x", 6);
        wrong(new RivalWeds(), "asked ;x", 6);
        wrong(new RivalWeds(), "person 1;asked 0 ;x", 17);
        wrong(new RivalWeds(), "person 1;person 1;reinsured 0 ;x", 30);
        wrong(new RivalWeds(), "wed ;x", 4);
        wrong(new RivalWeds(), "person 1;person 1;wed 0 1 ;x", 26);
        wrong(new RivalWeds(), "person 1;person 1;wed 0 1 happy ;x", 32);
        wrong(new RivalWeds(), "bar ;x", 4);
        wrong(new RivalWeds(), "person 1{", 8);
        wrong(new RivalWeds(), "person 1/", 8);
        wrong(new RivalWeds(), "person 1:", 8);
        wrong(new RivalWeds(), "person 1`", 8);
        wrong(new RivalWeds(), "person\t1", 6);
        wrong(new RivalWeds(), "person 1x", 8);
        wrong(new RivalWeds(), "lift 1", 0);
        wrong(new RivalWeds(), "7", 0);
        wrong(new RivalWeds(), "likes 0 0", 6);
        wrong(new RivalWeds(), "person 1;likes", 14);
        wrong(new RivalWeds(), "person 1;likes 0", 16);
        wrong(new RivalWeds(), "person 1;likes 0;", 16);
        wrong(new RivalWeds(), "person 1;likes 0 00", 17);
        wrong(new RivalWeds(), "person 1;person 1;likes 0 0 0", 26);
        wrong(new RivalWeds(), "person 1;person 1;likes 0 00 0", 29);
        wrong(new RivalWeds(), "person 1;person 1;likes 2 00", 24);
        wrong(new RivalWeds(), "person 1;person 1;likes 000", 27);
        wrong(new RivalWeds(), "person 1;person 1;likes 0000", 24);
        wrong(new RivalWeds(), "person 1;person 1;likes 0 0x", 26);
        wrong(new RivalWeds(), "person 1;person 1;likes 0 ab", 26);
        wrong(new RivalWeds(), "asked 0 1", 6);
        wrong(new RivalWeds(), "person 1;person 1;asked 1 1", 26);
        wrong(new RivalWeds(), "person 1;person 1;asked 1", 25);
        wrong(new RivalWeds(), "person 1;person 1;asked 2 1", 24);
        wrong(new RivalWeds(), "person 1;person 1;reinsured 0 2", 30);
        wrong(new RivalWeds(), "person 1;person 1;reinsured 0 0", 30);
        wrong(new RivalWeds(), "person 1;asked 0 1;person 1", 17);
        wrong(new RivalWeds(), "person 1;person 2;wed 0 1", 25);
        wrong(new RivalWeds(), "person 1;person 2;wed 0 1 happ 3", 26);
        wrong(new RivalWeds(), "person 1;person 2;wed 0 1 happy", 31);
        wrong(new RivalWeds(), "person 1;person 2;wed 0 1 happy 100", 32);
        wrong(new RivalWeds(), "person 1;person 2;wed 0 0 happy 1", 24);
        wrong(new RivalWeds(), "person 1;person 2;person 3;wed 0 1 happy 1;wed 1 2 happy 1", 47);
        wrong(new RivalWeds(), "person 1;person 2;person 3;wed 0 1 happy 1;wed 2 1 happy 1", 49);
        wrong(new RivalWeds(), "bar 100", 4);
        wrong(new RivalWeds(), "bar happy", 4);
        wrong(new RivalWeds(), "premium 21", 8);
        wrong(new RivalWeds(), "pays 100", 5);
        wrong(new RivalWeds(), "pays", 4);
        RivalWeds x = new RivalWeds();
        Due.due("a right one", Due.town(x, "person 1;person 2;person 3;wed 0 1 happy 0"), 1);
        Due.due("no fault then", x.fault(), -1);
        wrong(x, "wed 2 0 happy 1", 6);
        x.part(0);
        Due.due("of those who parted", Due.town(x, "wed 2 0 happy 1"), 2);
    }

    private static void lawLines() {
        RivalWeds x = Due.townOf(Due.FIVE);
        Due.due("without a law", x.match(0, 6), 13);
        turns(x, "", 0);
        turns(x, "  ", 0);
        turns(x, "lift 30", 30);
        turns(x, "sour 30", -30);
        turns(x, "lift 7;sour 9 ; lift 1", -1);
        turns(x, "lift 1 if insured", 1);
        turns(x, "lift 1 if not insured", 0);
        turns(x, "lift 1 if rich", 1);
        turns(x, "lift 1 if happy > 24", 1);
        turns(x, "lift 1 if happy > 25", 0);
        turns(x, "lift 1 if happy < 26", 1);
        turns(x, "lift 1 if happy < 25", 0);
        turns(x, "lift 1 if insurers > 2 and insurers < 4", 1);
        turns(x, "lift 1 if liking > 12 and liking < 14", 1);
        turns(x, "lift 1 if quarrel < 1", 1);
        turns(x, "lift 1 if month < 1 and months < 1", 1);
        turns(x, "lift 1 if 999 > happy + liking + 900", 1);
        turns(x, "lift 1 if 999 < happy + liking + 961", 0);
        turns(x, "lift 1 if 999 < happy+liking+962", 1);
        turns(x, "lift 1 if rich or rich and not rich", 1);
        turns(x, "lift 1 if (rich or rich) and not rich", 0);
        turns(x, "lift 1 if not rich or insured", 1);
        turns(x, "lift 1 if not (rich or insured)", 0);
        turns(x, "lift 1 if not not rich", 1);
        turns(x, "lift 1 if not rich and not rich or rich and 1 < 2 and 2 > 1", 1);
        turns(x, "lift1if(rich)and(1<2)", 1);
        turns(x, "lift 1 if rich;lift 2 if not rich;lift 4 if insured;sour 8 if rich;lift 16", 13);
        Due.due("count(3)", x.count(3), 5);
        StringBuilder text = new StringBuilder("lift 1");
        for (int i = 1; i < 12; i++) {
            text.append(";lift ").append(i + 1);
        }
        turns(x, text.toString(), 78);
        Due.due("12 lines", x.count(3), 12);
        wrongLaw(x, text + " ; lift 1", text.length() + 3);
        Due.due("the law stays", x.match(0, 6), 78);
        Due.due("one in its place", Due.law(x, "sour 2;sour 3"), 2);
        Due.due("an empty one has no lines", Due.law(x, ""), 0);
        Due.due("nor have blanks", Due.law(x, "   "), 0);
        Due.due("count(3)", x.count(3), 0);
        Due.law(x, "sour 2;sour 3");
        Due.due("it turns", x.match(0, 6), -5);
    }

    private static void turns(RivalWeds x, String text, int due) {
        Due.law(x, text);
        Due.due("turns by " + text, x.match(0, 6), due);
    }

    private static void wrongLaw(RivalWeds x, String text, int fault) {
        int lines = x.count(3);
        Due.tape(x, text);
        Due.argument("law: " + text, () -> x.law());
        Due.due("fault of " + text, x.fault(), fault);
        Due.due("lines behind " + text, x.count(3), lines);
    }

    private static void lawFaults() {
        RivalWeds x = new RivalWeds();
        wrongLaw(x, ";", 0);
        wrongLaw(x, "lift", 4);
        wrongLaw(x, "lift ", 5);
        wrongLaw(x, "lift ;x", 5);
        wrongLaw(x, "lift 1 if ;x", 10);
        wrongLaw(x, "lift 1 if rich and ;x", 19);
        wrongLaw(x, "lift 1 if rich or ;x", 18);
        wrongLaw(x, "lift 1 if not ;x", 14);
        wrongLaw(x, "lift 1 if happy < ;x", 18);
        wrongLaw(x, "lift 31", 5);
        wrongLaw(x, "lift 0030", 5);
        wrongLaw(x, "lift 1 ;", 8);
        wrongLaw(x, "lift 1 when rich", 7);
        wrongLaw(x, "lift 1 if", 9);
        wrongLaw(x, "lift 1 if ;", 10);
        wrongLaw(x, "lift 1 if happy", 15);
        wrongLaw(x, "lift 1 if happy ;", 16);
        wrongLaw(x, "lift 1 if happy < ;", 18);
        wrongLaw(x, "lift 1 if happy + < 1", 18);
        wrongLaw(x, "lift 1 if happy < 1 < 2", 20);
        wrongLaw(x, "lift 1 if happy < 1000", 18);
        wrongLaw(x, "lift 1 if 1000 < happy", 10);
        wrongLaw(x, "lift 1 if happy < 1 + rich", 22);
        wrongLaw(x, "lift 1 if rich < 1", 15);
        wrongLaw(x, "lift 1 if rich + 1", 15);
        wrongLaw(x, "lift 1 if rich insured", 15);
        wrongLaw(x, "lift 1 if rich and", 18);
        wrongLaw(x, "lift 1 if rich and or", 19);
        wrongLaw(x, "lift 1 if or", 10);
        wrongLaw(x, "lift 1 if (rich", 15);
        wrongLaw(x, "lift 1 if (rich;", 15);
        wrongLaw(x, "lift 1 if rich)", 14);
        wrongLaw(x, "lift 1 if ()", 11);
        wrongLaw(x, "lift 1 if (happy) < 1", 16);
        wrongLaw(x, "lift 1 if (1 + 2) < 1", 16);
        wrongLaw(x, "lift 1 if not", 13);
        wrongLaw(x, "lift 1 if richs", 10);
        wrongLaw(x, "lift 1 if person > 1", 10);
        wrongLaw(x, "lift 1 if happy = 1", 16);
        wrongLaw(x, "bar 1", 0);
        Due.due("a right one", Due.law(x, "lift 1"), 1);
        Due.due("no fault", x.fault(), -1);
    }

    private static void deep() {
        RivalWeds x = Due.townOf(Due.FIVE);
        turns(x, "lift 1 if ((((((rich))))))", 1);
        turns(x, "lift 1 if not not not not not not rich", 1);
        turns(x, "lift 1 if not (not (not (1 > 2))) and not not not not not not rich", 1);
        wrongLaw(x, "lift 1 if (((((((rich)))))))", 16);
        wrongLaw(x, "lift 1 if not (not (not (not rich)))", 25);
        wrongLaw(x, "lift 1 if (((((((", 16);
        wrongLaw(x, "lift 1 if ((((((rich)))))", 25);
        wrongLaw(x, "lift 1 if rich or ((((((not rich))))))", 24);
        turns(x, "lift 1 if ((((((1>2)))))) or ((((((rich))))))", 1);
    }

    private static void tapeIsUsedUp() {
        RivalWeds x = new RivalWeds();
        Due.tape(x, "person");
        Due.argument("wrong", () -> x.town());
        Due.due("tape behind a wrong town", x.feed(0, 0, 0, 0, 0), 20);
        Due.argument("wrong", () -> x.law());
        Due.due("tape behind a wrong law", x.feed(0, 0, 0, 0, 0), 20);
        x.end(0);
        x.law();
        Due.due("tape behind a law", x.feed(0, 0, 0, 0, 0), 20);
        Due.argument("zeros tell rows of nobody", () -> x.anniversary(true));
        Due.due("tape behind a wrong anniversary", x.feed(0, 0, 0, 0, 0), 20);
        Due.argument("dance likewise", () -> x.dance());
        Due.due("tape behind a wrong dance", x.feed(0, 0, 0, 0, 0), 20);
        Due.due("fault is that of the latest text", x.fault(), -1);
    }
}
