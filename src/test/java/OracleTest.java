import java.util.Random;

/** Random runs of calls, each answered by the program and by the oracle. Arguments: number of runs, first run. */
final class OracleTest {
    /** An object is promised 512 calls; a step makes some thirty at most. */
    private static final int CALLS = 440;

    private interface Call {
        Object made();
    }

    private final Random random;
    private final RivalWeds x = new RivalWeds();
    private final Oracle y = new Oracle();
    private final StringBuilder told = new StringBuilder();
    private int people;
    private int matches;
    private int made;
    private static int calls;
    private static int thrown;
    private static int textsTaken;
    private static int textsRefused;
    private static final java.util.TreeMap<String, java.util.TreeSet<String>> seen = new java.util.TreeMap<>();

    private OracleTest(long seed) {
        random = new Random(seed);
    }

    public static void main(String[] args) {
        int runs = args.length > 0 ? Integer.parseInt(args[0]) : 500;
        int first = args.length > 1 ? Integer.parseInt(args[1]) : 1;
        for (int run = first; run < first + runs; run++) {
            if (!new OracleTest(run).run()) {
                System.out.println("run " + run + " is not as due");
                System.exit(1);
            }
        }
        System.out.println("OracleTest: " + calls + " calls, " + thrown + " threw, " + textsTaken + " texts taken, "
                + textsRefused + " refused");
        if (args.length > 2) {
            seen.forEach((name, answers) -> System.out.println(name + " " + answers));
        }
    }

    private boolean run() {
        if (!settle()) {
            return false;
        }
        int mood = random.nextInt(4);
        while (made < CALLS) {
            people = y.count(0);
            matches = y.count(1);
            if (!(mood == 0 ? any() : mood == 1 && random.nextInt(3) == 0 ? acts() : mostly())) {
                return false;
            }
        }
        return true;
    }

    private boolean same(String call, Call ofX, Call ofY) {
        calls++;
        made++;
        String a = answer(ofX);
        String b = answer(ofY);
        told.append(call).append(" -> ").append(b).append('\n');
        String name = call.substring(0, call.indexOf('('));
        java.util.TreeSet<String> answers = seen.computeIfAbsent(name, k -> new java.util.TreeSet<>());
        if (answers.size() < 12) {
            answers.add(b);
        }
        if (b.startsWith("threw")) {
            thrown++;
        }
        if (!a.equals(b)) {
            System.out.println(told);
            System.out.println("answered " + a + ", due is " + b);
            return false;
        }
        return true;
    }

    private static String answer(Call call) {
        try {
            return String.valueOf(call.made());
        } catch (RuntimeException e) {
            return "threw " + e.getClass().getName();
        }
    }

    private int below(int n) {
        return random.nextInt(n);
    }

    private int someone() {
        return below(20) == 0 ? below(11) - 1 : below(Math.max(1, people));
    }

    private int someMatch() {
        return below(20) == 0 ? below(22) - 1 : below(3) == 0 ? below(Math.max(1, matches))
                : Math.max(0, matches - 1 - below(4));
    }

    private int about(int least, int most) {
        return below(20) == 0 ? least - 1 : below(20) == 0 ? most + 1 : least + below(most - least + 1);
    }

    // ---- texts

    private boolean tell(String text) {
        x.end(0);
        y.end(0);
        for (int i = 0; i < text.length(); i += 20) {
            int[] n = new int[5];
            for (int j = 0; j < 20; j++) {
                n[j / 4] = n[j / 4] << 8 | (i + j < text.length() ? text.charAt(i + j) & 255 : 0);
            }
            if (!same("feed()", () -> x.feed(n[0], n[1], n[2], n[3], n[4]), () -> y.feed(n))) {
                return false;
            }
        }
        told.append("text ").append(text).append('\n');
        return same("end(" + text.length() + ")", () -> x.end(text.length()), () -> y.end(text.length()));
    }

    private String spoilt(String text) {
        StringBuilder t = new StringBuilder(text);
        int changes = below(4) == 0 ? 1 + below(2) : 0;
        for (int i = 0; i < changes; i++) {
            int at = below(t.length() + 1);
            int how = below(3);
            if (how == 0 || at == t.length()) {
                t.insert(at, "0123456789 ;;<>+()abz\t\u00e9(not ".charAt(below(28)));
            } else if (how == 1) {
                t.deleteCharAt(at);
            } else {
                t.setLength(at);
            }
        }
        return t.length() > 400 ? t.substring(0, 400) : t.toString();
    }

    private boolean settle() {
        StringBuilder text = new StringBuilder("person " + below(120));
        int n = below(9);
        for (int i = 1; i < n; i++) {
            text.append(";person ").append(below(3) == 0 ? below(1000) : below(60));
        }
        people = Math.max(1, n);
        if (!readTown(text.toString())) {
            return false;
        }
        people = y.count(0);
        StringBuilder likes = new StringBuilder("bar 2");
        for (int i = 0; i < people; i++) {
            likes.append(";likes ").append(i).append(' ');
            for (int j = 0; j < people; j++) {
                likes.append(below(2) == 0 ? below(10) : below(2));
            }
        }
        if (!readTown(likes.toString())) {
            return false;
        }
        StringBuilder asked = new StringBuilder("bar " + below(100) + ";pays " + below(100) + ";premium " + below(21));
        for (int i = 0; i < 11 && people > 1; i++) {
            int a = below(people);
            int b = (a + 1 + below(people - 1)) % people;
            asked.append(below(3) == 0 ? ";reinsured " : ";asked ").append(a).append(' ').append(b);
        }
        return readTown(asked.toString()) && (below(3) == 0 || readLaw(lawText()));
    }

    private boolean readTown(String text) {
        if (!tell(text)) {
            return false;
        }
        if (!same("town()", () -> x.town(), () -> y.town())) {
            return false;
        }
        return countText();
    }

    private boolean readLaw(String text) {
        if (!tell(text)) {
            return false;
        }
        if (!same("law()", () -> x.law(), () -> y.law())) {
            return false;
        }
        return countText();
    }

    private boolean countText() {
        if (y.fault() < 0) {
            textsTaken++;
        } else {
            textsRefused++;
        }
        return same("fault()", () -> x.fault(), () -> y.fault());
    }

    private String townText() {
        StringBuilder text = new StringBuilder();
        int lines = below(12) == 0 ? 13 + below(3) : below(5);
        for (int i = 0; i < lines; i++) {
            text.append(i == 0 ? "" : below(3) == 0 ? " ; " : ";");
            switch (below(9)) {
                case 0: text.append("person ").append(below(1010)); people = Math.min(8, people + below(2)); break;
                case 1:
                    text.append("likes ").append(someone()).append(' ');
                    for (int j = 0; j < people; j++) {
                        text.append(below(10));
                    }
                    break;
                case 2: case 3: text.append("asked ").append(someone()).append(' ').append(someone()); break;
                case 4: text.append("reinsured ").append(someone()).append(' ').append(someone()); break;
                case 5: text.append("wed ").append(someone()).append(' ').append(someone()).append(" happy ")
                        .append(below(102)); break;
                case 6: text.append("bar ").append(below(101)); break;
                case 7: text.append("premium ").append(below(22)); break;
                default: text.append("pays ").append(below(101)); break;
            }
        }
        return spoilt(text.toString());
    }

    private String lawText() {
        StringBuilder text = new StringBuilder();
        int lines = below(15) == 0 ? 11 + below(3) : below(6);
        for (int i = 0; i < lines; i++) {
            text.append(i == 0 ? "" : ";").append(below(2) == 0 ? "lift " : "sour ")
                    .append(below(4) == 0 ? below(32) : below(8));
            if (below(5) > 0) {
                text.append(" if ");
                condition(text, below(10) == 0 ? 7 : 3);
            }
        }
        return spoilt(text.toString());
    }

    private void condition(StringBuilder text, int depth) {
        if (text.length() > 330) {
            text.append("rich");
            return;
        }
        switch (depth == 0 ? 4 + below(4) : below(8)) {
            case 0: condition(text, depth - 1); text.append(" or "); condition(text, depth - 1); break;
            case 1: condition(text, depth - 1); text.append(" and "); condition(text, depth - 1); break;
            case 2: text.append("not "); condition(text, depth - 1); break;
            case 3: text.append("("); condition(text, depth - 1); text.append(")"); break;
            case 4: text.append(below(2) == 0 ? "insured" : "rich"); break;
            default:
                sum(text);
                text.append(below(2) == 0 ? "<" : " > ");
                sum(text);
        }
    }

    private void sum(StringBuilder text) {
        int parts = 1 + (below(3) == 0 ? below(3) : 0);
        String[] words = {"happy", "months", "quarrel", "insurers", "liking", "month", "happy", "quarrel"};
        for (int i = 0; i < parts; i++) {
            text.append(i == 0 ? "" : "+");
            if (below(2) == 0) {
                text.append(below(3) == 0 ? below(100) : below(12));
            } else {
                text.append(words[below(words.length)]);
            }
        }
    }

    // ---- calls

    private boolean mostly() {
        switch (below(6)) {
            case 0: return acts();
            case 1: case 2: return sights();
            case 3: return aheads();
            default: return any();
        }
    }

    private boolean any() {
        switch (below(14)) {
            case 0: return below(8) == 0 ? readTown(townText()) : sights();
            case 1: return below(6) == 0 ? readLaw(lawText()) : aheads();
            case 2: case 3: return acts();
            case 4: case 5: return sights();
            case 6: case 7: return aheads();
            case 8: return pairs();
            case 9: return falls();
            case 10: return sets();
            case 11: return trials();
            default: return keeps();
        }
    }

    private boolean acts() {
        int p = someone();
        int o = someone();
        int m = someMatch();
        switch (below(10)) {
            case 0: return same("ask(" + p + "," + o + ")", () -> x.ask(p, o), () -> y.ask(p, o));
            case 1: case 2: case 3: return same("wed(" + p + "," + o + ")", () -> x.wed(p, o), () -> y.wed(p, o));
            case 4: return same("gift(" + p + "," + m + ")", () -> x.gift(p, m), () -> y.gift(p, m));
            case 5: case 6: return same("meddle(" + p + "," + m + ")", () -> x.meddle(p, m), () -> y.meddle(p, m));
            case 7:
                int helper = below(4) == 0 ? -1 : o;
                return same("reinsure(" + p + "," + helper + ")", () -> x.reinsure(p, helper), () -> y.reinsure(p, helper));
            case 8:
                return below(2) == 0 ? same("part(" + m + ")", () -> x.part(m), () -> y.part(m)) : true;
            default:
                int n = below(3) == 0 ? about(1, 60) : 1 + below(3);
                return same("months(" + n + ")", () -> x.months(n), () -> y.months(n));
        }
    }

    private boolean sights() {
        int p = someone();
        int o = someone();
        int m = someMatch();
        int what = below(9) - 1;
        int which = below(17) - 1;
        switch (below(6)) {
            case 0: case 1: return same("person(" + p + "," + what + ")", () -> x.person(p, what), () -> y.person(p, what));
            case 2: case 3: return same("match(" + m + "," + what + ")", () -> x.match(m, what), () -> y.match(m, what));
            case 4: return same("count(" + which + ")", () -> x.count(which), () -> y.count(which));
            default: return same("liking(" + p + "," + o + ")", () -> x.liking(p, o), () -> y.liking(p, o));
        }
    }

    private boolean aheads() {
        int p = someone();
        int o = someone();
        int m = someMatch();
        int q = about(0, 9);
        int n = about(0, 40);
        int g = about(1, 20);
        switch (below(7)) {
            case 0: return same("would(" + p + "," + o + ")", () -> x.would(p, o), () -> y.would(p, o));
            case 1: return same("best(" + p + ")", () -> x.best(p), () -> y.best(p));
            case 2: return same("next(" + m + "," + q + ")", () -> x.next(m, q), () -> y.next(m, q));
            case 3: return same("ahead(" + m + "," + n + "," + q + ")", () -> x.ahead(m, n, q), () -> y.ahead(m, n, q));
            case 4: return same("first(" + m + "," + q + ")", () -> x.first(m, q), () -> y.first(m, q));
            case 5: return same("odds(" + m + ")", () -> x.odds(m), () -> y.odds(m));
            default: return same("gifts(" + m + "," + g + "," + q + ")", () -> x.gifts(m, g, q), () -> y.gifts(m, g, q));
        }
    }

    private boolean falls() {
        int p = someone();
        switch (below(6)) {
            case 0: return same("falls()", () -> x.falls(), () -> y.falls());
            case 1: return same("loses(" + p + ")", () -> x.loses(p), () -> y.loses(p));
            case 2: return same("holds(" + p + ")", () -> x.holds(p), () -> y.holds(p));
            case 3: return same("ring(" + p + ")", () -> x.ring(p), () -> y.ring(p));
            case 4: return same("rings()", () -> x.rings(), () -> y.rings());
            default: return same("leans(" + p + ")", () -> x.leans(p), () -> y.leans(p));
        }
    }

    private boolean pairs() {
        int p = someone();
        boolean b = below(2) == 0;
        switch (below(5)) {
            case 0: return same("rather(" + p + ")", () -> x.rather(p), () -> y.rather(p));
            case 1: return same("lovers(" + b + ")", () -> x.lovers(b), () -> y.lovers(b));
            case 2: return same("steady(" + p + ")", () -> x.steady(p), () -> y.steady(p));
            case 3: return same("steady(-1)", () -> x.steady(-1), () -> y.steady(-1));
            default: return same("weddings()", () -> x.weddings(), () -> y.weddings());
        }
    }

    private boolean sets() {
        StringBuilder rows = new StringBuilder();
        int n = below(25) == 0 ? 12 + below(2) : below(4);
        for (int i = 0; i < n; i++) {
            int from = below(Math.max(1, people));
            int to = Math.min(people - 1, from + below(4));
            rows.append((char) (below(25) == 0 ? from + 1 : from)).append((char) Math.max(0, below(25) == 0 ? to + 1 : to))
                    .append((char) below(to - from + 2 > 0 ? to - from + 2 : 1));
        }
        if (below(25) == 0) {
            rows.append('\0');
        }
        if (!tell(rows.toString())) {
            return false;
        }
        boolean b = below(2) == 0;
        return below(2) == 0 ? same("anniversary(" + b + ")", () -> x.anniversary(b), () -> y.anniversary(b))
                : same("dance()", () -> x.dance(), () -> y.dance());
    }

    private boolean trials() {
        int n = about(0, 40);
        boolean b = below(2) == 0;
        switch (below(3)) {
            case 0: return same("richest()", () -> x.richest(), () -> y.richest());
            case 1: return same("trial(" + n + "," + b + ")", () -> x.trial(n, b), () -> y.trial(n, b));
            default: return same("span(" + n + "," + b + ")", () -> x.span(n, b), () -> y.span(n, b));
        }
    }

    private boolean keeps() {
        int m = someMatch();
        boolean b = below(2) == 0;
        int ago = below(20) == 0 ? below(70) - 2 : below(5);
        int what = below(20) == 0 ? below(7) - 2 : below(4);
        int seed = below(3) == 0 ? random.nextInt() : below(20);
        switch (below(9)) {
            case 0: case 1: return same("led(" + m + "," + b + ")", () -> x.led(m, b), () -> y.led(m, b));
            case 2: case 3: return same("log(" + ago + "," + what + ")", () -> x.log(ago, what), () -> y.log(ago, what));
            case 4: return same("seed(" + seed + ")", () -> x.seed(seed), () -> y.seed(seed));
            case 5: case 6: return same("undo()", () -> x.undo(), () -> y.undo());
            case 7:
                return below(3) > 0 ? same("back()", () -> x.back(), () -> y.back()) : same("image()", () -> {
                    x.image();
                    return 0;
                }, () -> {
                    y.image();
                    return 0;
                });
            default: return same("fault()", () -> x.fault(), () -> y.fault());
        }
    }
}
