/** Promises 34 to 36: who had asked by what is told, whom to ask to dance, the richest. */
final class SetsTest {
    public static void main(String[] args) {
        anniversary();
        dance();
        wrong();
        richest();
        Due.close("SetsTest");
    }

    private static int sets(RivalWeds x, int... told) {
        Due.bytes(x, told);
        return x.anniversary(false);
    }

    private static int sure(RivalWeds x, int... told) {
        Due.bytes(x, told);
        return x.anniversary(true);
    }

    private static int danced(RivalWeds x, int... told) {
        Due.bytes(x, told);
        return x.dance();
    }

    private static void anniversary() {
        RivalWeds x = Due.townOf("person 1;person 1;person 1;person 1");
        Due.due("nothing told", sets(x), 16);
        Due.due("nothing sure", sure(x), 0);
        Due.due("two of four", sets(x, 0, 3, 2), 6);
        Due.due("both ends count", sets(x, 1, 2, 2), 4);
        Due.due("both are sure", sure(x, 1, 2, 2), 6);
        Due.due("nobody", sets(x, 0, 3, 0), 1);
        Due.due("nobody sure", sure(x, 0, 3, 0), 0);
        Due.due("one alone", sure(x, 3, 3, 1), 8);
        Due.due("more than there are", sets(x, 0, 3, 5), 0);
        Due.due("none fits, none is sure", sure(x, 0, 3, 255), 0);
        Due.due("two rows that cannot both be", sets(x, 0, 1, 2, 1, 1, 0), 0);
        Due.due("rows together", sets(x, 0, 1, 1, 1, 2, 1, 2, 3, 1), 2);
        Due.due("sure by them", sure(x, 0, 1, 1, 1, 2, 2), 6);
        Due.due("rows of before are gone", sets(x, 0, 0, 1), 8);
        Due.due("also all", sets(x), 16);
        Due.due("12 rows", sets(x, 0, 3, 2, 0, 3, 2, 0, 3, 2, 0, 3, 2, 0, 3, 2, 0, 3, 2, 0, 3, 2, 0, 3, 2, 0, 3, 2,
                0, 3, 2, 0, 3, 2, 0, 0, 1), 3);
        RivalWeds eight = Due.townOf("person 1;person 1;person 1;person 1;person 1;person 1;person 1;person 1");
        Due.due("256", sets(eight), 256);
        Due.due("all", sure(eight, 0, 7, 8), 255);
        Due.due("four of eight", sets(eight, 0, 7, 4), 70);
        RivalWeds nobody = new RivalWeds();
        Due.due("of nobody the empty one", sets(nobody), 1);
        Due.due("nothing sure", sure(nobody), 0);
        Due.due("no dance", danced(nobody), -1);
    }

    private static void dance() {
        RivalWeds x = Due.townOf("person 1;person 1;person 1;person 1");
        Due.due("all alike: the least", danced(x), 0);
        Due.due("0 is known", danced(x, 0, 0, 1), 1);
        Due.due("0 and 1 are known", danced(x, 0, 1, 2), 2);
        Due.due("one of three or 3", danced(x, 0, 2, 1), 3);
        Due.due("one is left", danced(x, 0, 3, 4), -1);
        Due.due("none is left", danced(x, 0, 3, 5), -1);
        Due.due("two are left", danced(x, 1, 3, 0), 0);
        Due.due("the greater part counts: 1 of 4 or 3 of 4", danced(x, 0, 3, 1), 0);
        Due.due("3 of 4", danced(x, 0, 3, 3), 0);
    }

    private static void wrong() {
        RivalWeds x = Due.townOf("person 1;person 1;person 1;person 1");
        int[][] told = {{1, 0, 0}, {0, 4, 0}, {4, 4, 0}, {0}, {0, 1}, {0, 1, 1, 0}, {0, 1, 1, 0, 1}, {0, 255, 1},
            {255, 0, 1}, {0, 0, 0, 2, 1, 0}, new int[39]};
        for (int i = 0; i < told.length; i++) {
            Due.bytes(x, told[i]);
            Due.argument("anniversary by wrong tape " + i, () -> x.anniversary(false));
            Due.bytes(x, told[i]);
            Due.argument("sure by wrong tape " + i, () -> x.anniversary(true));
            Due.bytes(x, told[i]);
            Due.argument("dance by wrong tape " + i, () -> x.dance());
            Due.due("it is used up", x.end(1), false);
        }
        Due.due("fault is of texts alone", x.fault(), -1);
        Due.tape(x, "bar");
        Due.argument("a wrong text", () -> x.town());
        Due.due("its fault", x.fault(), 3);
        sets(x, 0, 0, 0);
        Due.due("stays by a told row", x.fault(), 3);
        Due.bytes(x, 1, 0, 0);
        Due.argument("wrong", () -> x.dance());
        Due.due("also by a wrong one", x.fault(), 3);
        RivalWeds nobody = new RivalWeds();
        Due.bytes(nobody, 0, 0, 0);
        Due.argument("rows of nobody", () -> nobody.anniversary(false));
    }

    private static void richest() {
        RivalWeds x = Due.townOf("person 0;person 0");
        Due.due("of several the least", x.richest(), 0);
        Due.town(x, "person 7;person 9;person 9;person 3");
        Due.due("the most", x.richest(), 3);
        Due.town(x, "asked 2 0;asked 3 0;asked 4 0;asked 5 0;wed 0 1 happy 0;pays 10;premium 0");
        Due.law(x, "lift 1");
        x.months(1);
        Due.due("four are ruined", x.count(10), 60);
        Due.due("0 and 1 have the half each", x.person(0, 0), 14);
        Due.due("0", x.richest(), 0);
        RivalWeds y = Due.townOf("person 9;person 9;asked 0 1;asked 1 0");
        Due.town(y, "person 0;person 0;wed 2 3 happy 0;asked 0 2;asked 1 2;pays 99");
        Due.law(y, "lift 1");
        y.months(1);
        Due.due("not who are ruined", y.richest(), 2);
        Due.town(y, "asked 2 0;asked 3 0;wed 0 1 happy 0");
        y.part(0);
        y.months(1);
        Due.due("all ruined", y.count(10), 15);
        Due.due("nobody is", y.richest(), -1);
        Due.due("of nobody", new RivalWeds().richest(), -1);
    }
}
