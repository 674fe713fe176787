import java.util.ArrayDeque;
import java.util.ArrayList;
import java.util.Arrays;
import java.util.Deque;
import java.util.List;
import java.util.NoSuchElementException;
import java.util.TreeSet;
import java.util.function.Predicate;
import java.util.function.ToIntFunction;

/** The document a second time, in its plainest form: whole copies, trees, searches without end conditions that are clever. */
final class Oracle {
    static final class Refused extends RuntimeException {
        private static final long serialVersionUID = 1L;
        final int at;

        Refused(int at) {
            this.at = at;
        }
    }

    static final class Human {
        int wealth;
        int[] likes = new int[8];
        TreeSet<Integer> asked = new TreeSet<>();
        Integer helper;
        boolean ruined;

        Human copy() {
            Human c = new Human();
            c.wealth = wealth;
            c.likes = likes.clone();
            c.asked = new TreeSet<>(asked);
            c.helper = helper;
            c.ruined = ruined;
            return c;
        }
    }

    static final class Couple {
        int one;
        int two;
        int happy;
        int age;
        boolean over;

        Couple copy() {
            Couple c = new Couple();
            c.one = one;
            c.two = two;
            c.happy = happy;
            c.age = age;
            c.over = over;
            return c;
        }
    }

    /** What the law sees. */
    record View(int happy, int months, int quarrel, int insurers, int liking, int month, boolean rich) {
    }

    record Line(int amount, Predicate<View> when) {
    }

    static final class World {
        List<Human> folk = new ArrayList<>();
        List<Couple> couples = new ArrayList<>();
        List<int[]> log = new ArrayList<>();
        List<Line> law;
        int bar = 20;
        int premium = 1;
        int pays = 10;
        int month;
        int quarrel;
        int seed = 1;
        int texts;
        int claims;

        World copy() {
            World w = new World();
            for (Human h : folk) {
                w.folk.add(h.copy());
            }
            for (Couple c : couples) {
                w.couples.add(c.copy());
            }
            w.log = new ArrayList<>(log);
            w.law = law;
            w.bar = bar;
            w.premium = premium;
            w.pays = pays;
            w.month = month;
            w.quarrel = quarrel;
            w.seed = seed;
            w.texts = texts;
            w.claims = claims;
            return w;
        }

        TreeSet<Integer> insurers(int one, int two) {
            TreeSet<Integer> set = new TreeSet<>();
            for (int p = 0; p < folk.size(); p++) {
                Human h = folk.get(p);
                if (p != one && p != two && !h.ruined && (h.asked.contains(one) || h.asked.contains(two))) {
                    set.add(p);
                }
            }
            if (set.size() < 2) {
                set.clear();
            }
            return set;
        }

        TreeSet<Integer> insurers(Couple c) {
            return c.over ? new TreeSet<>() : insurers(c.one, c.two);
        }

        View view(Couple c, int q) {
            Human a = folk.get(c.one);
            Human b = folk.get(c.two);
            return new View(c.happy, c.age, q, insurers(c).size(), a.likes[c.two] + b.likes[c.one], month,
                    a.wealth + b.wealth > 99);
        }

        int turns(View v) {
            if (law == null) {
                return v.liking - v.quarrel;
            }
            int sum = 0;
            for (Line line : law) {
                if (line.when.test(v)) {
                    sum += line.amount;
                }
            }
            return sum;
        }

        int spouse(int p) {
            for (Couple c : couples) {
                if (!c.over && (c.one == p || c.two == p)) {
                    return c.one == p ? c.two : c.one;
                }
            }
            return -1;
        }

        void receive(int p, int n) {
            Human h = folk.get(p);
            h.wealth += n;
            if (h.wealth > 999) {
                h.wealth = 999;
            }
        }

        int claim(Couple c) {
            int all = 0;
            for (int p : insurers(c)) {
                Human h = folk.get(p);
                if (h.helper != null && !folk.get(h.helper).ruined) {
                    Human r = folk.get(h.helper);
                    int half = pays / 2;
                    int given = half;
                    if (r.wealth < half) {
                        given = r.wealth;
                        r.ruined = true;
                    }
                    r.wealth -= given;
                    receive(p, given);
                }
                int paid = pays;
                if (h.wealth < pays) {
                    paid = h.wealth;
                    h.ruined = true;
                }
                h.wealth -= paid;
                all += paid;
            }
            receive(c.one, all / 2);
            receive(c.two, all - all / 2);
            return all;
        }

        void passMonth() {
            seed = (int) (1103515245L * seed + 12345L);
            quarrel = (seed >>> 16) % 32768 % 10;
            for (int m = 0; m < couples.size(); m++) {
                Couple c = couples.get(m);
                if (c.over) {
                    continue;
                }
                for (int p : insurers(c)) {
                    int due = premium;
                    while (due > 0 && folk.get(c.one).wealth > 0) {
                        folk.get(c.one).wealth--;
                        receive(p, 1);
                        due--;
                    }
                    while (due > 0 && folk.get(c.two).wealth > 0) {
                        folk.get(c.two).wealth--;
                        receive(p, 1);
                        due--;
                    }
                }
                c.happy = clamp(c.happy + turns(view(c, quarrel)));
                c.age++;
                if (c.happy < bar) {
                    int set = bits(insurers(c));
                    int paid = claim(c);
                    log.add(new int[] {month, m, paid, set});
                    claims++;
                }
                if (c.happy == 0) {
                    c.over = true;
                }
            }
            if (month < 9999) {
                month++;
            }
        }
    }

    private final StringBuilder tape = new StringBuilder();
    private World now = new World();
    private World image;
    private final Deque<World> past = new ArrayDeque<>();
    private int fault = -1;

    static int clamp(int happy) {
        return happy < 0 ? 0 : happy > 99 ? 99 : happy;
    }

    static int bits(Iterable<Integer> set) {
        int all = 0;
        for (int one : set) {
            all += 1 << one;
        }
        return all;
    }

    int feed(int... numbers) {
        if (tape.length() > 380) {
            return -1;
        }
        for (int number : numbers) {
            tape.append((char) (number >>> 24)).append((char) (number >>> 16 & 255)).append((char) (number >>> 8 & 255))
                    .append((char) (number & 255));
        }
        return tape.length();
    }

    boolean end(int n) {
        if (n < 0 || n > tape.length()) {
            return false;
        }
        tape.setLength(n);
        return true;
    }

    private String taken() {
        String text = tape.toString();
        tape.setLength(0);
        return text;
    }

    // ---- texts, told by a reader that works on the signs themselves

    private String text;
    private int at;

    private void blanks() {
        while (at < text.length() && text.charAt(at) == ' ') {
            at++;
        }
    }

    private Refused wrong() {
        blanks();
        return new Refused(at);
    }

    private String peekWord() {
        blanks();
        int to = at;
        while (to < text.length() && text.charAt(to) >= 'a' && text.charAt(to) <= 'z') {
            to++;
        }
        return text.substring(at, to);
    }

    private boolean word(String wanted) {
        if (peekWord().equals(wanted)) {
            at += wanted.length();
            return true;
        }
        return false;
    }

    private boolean sign(char wanted) {
        blanks();
        if (at < text.length() && text.charAt(at) == wanted) {
            at++;
            return true;
        }
        return false;
    }

    private String digits() {
        blanks();
        int to = at;
        while (to < text.length() && Character.digit(text.charAt(to), 10) >= 0 && text.charAt(to) < 128) {
            to++;
        }
        return text.substring(at, to);
    }

    private int number(int most) {
        String d = digits();
        if (d.isEmpty() || d.length() > 3 || Integer.parseInt(d) > most) {
            throw wrong();
        }
        at += d.length();
        return Integer.parseInt(d);
    }

    private int somebody(World w, int not, boolean unwed) {
        blanks();
        int begin = at;
        int p = number(w.folk.size() - 1);
        if (p == not || unwed && w.spouse(p) >= 0) {
            throw new Refused(begin);
        }
        return p;
    }

    int town() {
        text = taken();
        at = 0;
        World w = now.copy();
        try {
            lines(14, () -> townLine(w));
        } catch (Refused e) {
            fault = e.at;
            throw new IllegalArgumentException();
        }
        fault = -1;
        if (now.texts == 12) {
            throw new UnsupportedOperationException();
        }
        w.texts++;
        now = w;
        past.clear();
        return w.texts;
    }

    private int lines(int most, Runnable line) {
        blanks();
        if (at == text.length()) {
            return 0;
        }
        int lines = 0;
        do {
            if (lines == most) {
                throw wrong();
            }
            line.run();
            lines++;
        } while (sign(';'));
        blanks();
        if (at < text.length()) {
            throw wrong();
        }
        return lines;
    }

    private void townLine(World w) {
        String first = peekWord();
        if (first.equals("person") && w.folk.size() < 8) {
            word("person");
            Human h = new Human();
            h.wealth = number(999);
            w.folk.add(h);
        } else if (first.equals("likes")) {
            word(first);
            int p = somebody(w, -1, false);
            String f = digits();
            if (f.length() != w.folk.size()) {
                throw wrong();
            }
            at += f.length();
            for (int o = 0; o < f.length(); o++) {
                w.folk.get(p).likes[o] = o == p ? 0 : f.charAt(o) - '0';
            }
        } else if (first.equals("asked") || first.equals("reinsured")) {
            word(first);
            int p = somebody(w, -1, false);
            int o = somebody(w, p, false);
            if (first.equals("asked")) {
                w.folk.get(p).asked.add(o);
            } else {
                w.folk.get(p).helper = o;
            }
        } else if (first.equals("wed") && w.couples.size() < 20) {
            word(first);
            Couple c = new Couple();
            c.one = somebody(w, -1, true);
            c.two = somebody(w, c.one, true);
            if (!word("happy")) {
                throw wrong();
            }
            c.happy = number(99);
            w.couples.add(c);
        } else if (word("bar")) {
            w.bar = number(99);
        } else if (word("premium")) {
            w.premium = number(20);
        } else if (word("pays")) {
            w.pays = number(99);
        } else {
            throw wrong();
        }
    }

    int law() {
        text = taken();
        at = 0;
        List<Line> law = new ArrayList<>();
        try {
            lines(12, () -> law.add(lawLine()));
        } catch (Refused e) {
            fault = e.at;
            throw new IllegalArgumentException();
        }
        fault = -1;
        World w = now.copy();
        w.law = law;
        now = w;
        past.clear();
        return law.size();
    }

    private Line lawLine() {
        boolean lift = word("lift");
        if (!lift && !word("sour")) {
            throw wrong();
        }
        int n = number(30);
        Predicate<View> when = word("if") ? either(0) : v -> true;
        return new Line(lift ? n : -n, when);
    }

    private Predicate<View> either(int depth) {
        Predicate<View> c = all(depth);
        while (word("or")) {
            c = c.or(all(depth));
        }
        return c;
    }

    private Predicate<View> all(int depth) {
        Predicate<View> c = atom(depth);
        while (word("and")) {
            c = c.and(atom(depth));
        }
        return c;
    }

    private Predicate<View> atom(int depth) {
        blanks();
        boolean open = at < text.length() && text.charAt(at) == '(';
        if ((open || peekWord().equals("not")) && depth == 6) {
            throw wrong();
        }
        if (sign('(')) {
            Predicate<View> inner = either(depth + 1);
            if (!sign(')')) {
                throw wrong();
            }
            return inner;
        }
        if (word("not")) {
            return atom(depth + 1).negate();
        }
        if (word("insured")) {
            return v -> v.insurers > 0;
        }
        if (word("rich")) {
            return View::rich;
        }
        ToIntFunction<View> left = sum();
        boolean less = sign('<');
        if (!less && !sign('>')) {
            throw wrong();
        }
        ToIntFunction<View> right = sum();
        return less ? v -> left.applyAsInt(v) < right.applyAsInt(v) : v -> left.applyAsInt(v) > right.applyAsInt(v);
    }

    private ToIntFunction<View> sum() {
        ToIntFunction<View> left = part();
        while (sign('+')) {
            ToIntFunction<View> before = left;
            ToIntFunction<View> more = part();
            left = v -> before.applyAsInt(v) + more.applyAsInt(v);
        }
        return left;
    }

    private ToIntFunction<View> part() {
        String word = peekWord();
        ToIntFunction<View> part;
        switch (word) {
            case "happy": part = View::happy; break;
            case "months": part = View::months; break;
            case "quarrel": part = View::quarrel; break;
            case "insurers": part = View::insurers; break;
            case "liking": part = View::liking; break;
            case "month": part = v -> v.month % 12; break;
            default:
                int n = number(999);
                return v -> n;
        }
        at += word.length();
        return part;
    }

    int fault() {
        return fault;
    }

    // ---- what is

    private Human human(int p) {
        if (p < 0 || p >= now.folk.size()) {
            throw new IndexOutOfBoundsException();
        }
        return now.folk.get(p);
    }

    private void two(int p, int o) {
        human(p);
        human(o);
        if (p == o) {
            throw new IllegalArgumentException();
        }
    }

    private Couple couple(int m) {
        if (m < 0 || m >= now.couples.size()) {
            throw new IndexOutOfBoundsException();
        }
        return now.couples.get(m);
    }

    private static void within(int n, int least, int most) {
        if (n < least || n > most) {
            throw new IllegalArgumentException();
        }
    }

    private int sumOfWealth() {
        return now.folk.stream().mapToInt(h -> h.wealth).sum();
    }

    private int peopleWho(Predicate<Integer> which) {
        int set = 0;
        for (int p = 0; p < now.folk.size(); p++) {
            if (which.test(p)) {
                set |= 1 << p;
            }
        }
        return set;
    }

    int person(int p, int what) {
        Human h = human(p);
        switch (what) {
            case 0: return h.wealth;
            case 1: return bits(h.asked);
            case 2: return peopleWho(o -> now.folk.get(o).asked.contains(p));
            case 3: return h.helper == null ? -1 : h.helper;
            case 4: return h.ruined ? 1 : 0;
            case 5: return now.spouse(p);
            case 6: return sumOfWealth() == 0 ? 0 : 100 * h.wealth / sumOfWealth();
            default: throw new NoSuchElementException();
        }
    }

    int liking(int p, int o) {
        two(p, o);
        return now.folk.get(p).likes[o];
    }

    int match(int m, int what) {
        Couple c = couple(m);
        switch (what) {
            case 0: return c.one;
            case 1: return c.two;
            case 2: return c.happy;
            case 3: return c.age;
            case 4: return c.over ? 1 : 0;
            case 5: return bits(now.insurers(c));
            case 6: return now.turns(now.view(c, now.quarrel));
            default: throw new NoSuchElementException();
        }
    }

    // ---- acts

    private void act() {
        past.addLast(now.copy());
        if (past.size() > 12) {
            past.removeFirst();
        }
    }

    boolean ask(int p, int o) {
        two(p, o);
        act();
        return now.folk.get(p).asked.add(o);
    }

    int wed(int p, int o) {
        two(p, o);
        if (now.spouse(p) != -1 || now.spouse(o) != -1) {
            throw new IllegalStateException();
        }
        if (now.couples.size() == 20) {
            throw new UnsupportedOperationException();
        }
        act();
        Couple c = new Couple();
        c.one = p;
        c.two = o;
        c.happy = 50;
        now.couples.add(c);
        return now.couples.size() - 1;
    }

    int gift(int p, int m) {
        Human h = human(p);
        Couple c = couple(m);
        if (c.over || !now.insurers(c).contains(p) || h.wealth < 10) {
            throw new IllegalStateException();
        }
        act();
        h.wealth -= 10;
        return c.happy = clamp(c.happy + 5);
    }

    int meddle(int p, int m) {
        human(p);
        Couple c = couple(m);
        if (c.over || !now.insurers(c).contains(p)) {
            throw new IllegalStateException();
        }
        act();
        return c.happy = clamp(c.happy - 5);
    }

    int reinsure(int p, int o) {
        human(p);
        if (o != -1) {
            two(p, o);
        }
        act();
        Human h = human(p);
        int before = h.helper == null ? -1 : h.helper;
        h.helper = o == -1 ? null : o;
        return before;
    }

    int part(int m) {
        Couple c = couple(m);
        if (c.over) {
            throw new IllegalStateException();
        }
        act();
        c.over = true;
        return c.happy;
    }

    int months(int n) {
        within(n, 1, 60);
        act();
        int before = now.claims;
        for (int i = 0; i < n; i++) {
            now.passMonth();
        }
        return now.claims - before;
    }

    int would(int p, int o) {
        two(p, o);
        return bits(now.insurers(p, o));
    }

    int best(int p) {
        human(p);
        int best = -1;
        int bestWorth = -1;
        for (int o = 0; o < now.folk.size(); o++) {
            if (o == p || now.spouse(p) >= 0 || now.spouse(o) >= 0) {
                continue;
            }
            int worth = now.insurers(p, o).size() * 100 + now.folk.get(p).likes[o];
            if (worth > bestWorth) {
                best = o;
                bestWorth = worth;
            }
        }
        return best;
    }

    // ---- ahead

    private int stepped(Couple c, int happy, int monthsOn, int q) {
        View v = now.view(c, q);
        int month = Math.min(9999, v.month + monthsOn);
        View then = new View(happy, v.months + monthsOn, q, v.insurers, v.liking, month, v.rich);
        return clamp(happy + now.turns(then));
    }

    private int far(Couple c, int n, int q) {
        int happy = c.happy;
        for (int i = 0; i < n && happy > 0; i++) {
            happy = stepped(c, happy, i, q);
        }
        return happy;
    }

    int next(int m, int q) {
        Couple c = couple(m);
        within(q, 0, 9);
        return c.over ? 0 : stepped(c, c.happy, 0, q);
    }

    int ahead(int m, int n, int q) {
        Couple c = couple(m);
        within(n, 0, 40);
        within(q, 0, 9);
        return c.over ? 0 : far(c, n, q);
    }

    int first(int m, int q) {
        Couple c = couple(m);
        within(q, 0, 9);
        for (int n = 1; n <= 40 && !c.over; n++) {
            if (far(c, n, q) < now.bar) {
                return n;
            }
        }
        return -1;
    }

    int odds(int m) {
        Couple c = couple(m);
        int claims = 0;
        for (int q = 0; q < 10 && !c.over; q++) {
            if (next(m, q) < now.bar) {
                claims++;
            }
        }
        return claims;
    }

    int gifts(int m, int n, int q) {
        Couple c = couple(m);
        within(n, 1, 20);
        within(q, 0, 9);
        if (c.over) {
            return -1;
        }
        boolean[][] can = new boolean[41][100];
        can[0][c.happy] = true;
        for (int i = 0; i < n; i++) {
            boolean[][] then = new boolean[41][100];
            int[] behind = new int[100];
            for (int h = 0; h < 100; h++) {
                behind[h] = h == 0 ? 0 : stepped(c, h, i, q);
            }
            for (int spent = 0; spent <= 40; spent++) {
                for (int h = 0; h < 100; h++) {
                    for (int more = 0; can[spent][h] && spent + more <= 40; more++) {
                        int b = behind[Math.min(99, h + 5 * more)];
                        if (b >= now.bar) {
                            then[spent + more][b] = true;
                        }
                    }
                }
            }
            can = then;
        }
        for (int spent = 0; spent <= 40; spent++) {
            for (int h = 0; h < 100; h++) {
                if (can[spent][h]) {
                    return spent;
                }
            }
        }
        return -1;
    }

    // ---- who falls

    private World fallen(int p, int wealth) {
        World w = now.copy();
        if (p >= 0) {
            w.folk.get(p).wealth = wealth;
        }
        for (Couple c : w.couples) {
            if (!c.over) {
                w.claim(c);
            }
        }
        return w;
    }

    int falls() {
        World w = fallen(-1, 0);
        return peopleWho(p -> w.folk.get(p).ruined && !now.folk.get(p).ruined);
    }

    int loses(int p) {
        human(p);
        return Math.max(0, now.folk.get(p).wealth - fallen(-1, 0).folk.get(p).wealth);
    }

    int holds(int p) {
        human(p);
        for (int wealth = 0; wealth <= 999; wealth++) {
            if (now.folk.get(p).ruined || !fallen(p, wealth).folk.get(p).ruined) {
                return wealth;
            }
        }
        return -1;
    }

    private List<Integer> along(int p) {
        List<Integer> met = new ArrayList<>();
        Integer o = now.folk.get(p).helper;
        while (o != null && !met.contains(o)) {
            met.add(o);
            o = now.folk.get(o).helper;
        }
        return met;
    }

    int ring(int p) {
        human(p);
        int i = along(p).indexOf(p);
        return i < 0 ? -1 : i + 1;
    }

    int rings() {
        TreeSet<Integer> sets = new TreeSet<>();
        for (int p = 0; p < now.folk.size(); p++) {
            if (ring(p) > 0) {
                sets.add(bits(along(p)));
            }
        }
        return sets.size();
    }

    int leans(int p) {
        human(p);
        return peopleWho(o -> along(o).contains(p));
    }

    // ---- pairs

    private boolean rather(int p, int o) {
        int s = now.spouse(p);
        int[] likes = now.folk.get(p).likes;
        return p != o && likes[o] > (s < 0 ? 0 : likes[s]);
    }

    int rather(int p) {
        human(p);
        return peopleWho(o -> rather(p, o));
    }

    int lovers(boolean first) {
        int n = 0;
        int found = -1;
        for (int i = 0; i < now.folk.size(); i++) {
            for (int j = i + 1; j < now.folk.size(); j++) {
                if (rather(i, j) && rather(j, i) && !now.folk.get(i).ruined && !now.folk.get(j).ruined) {
                    n++;
                    if (found < 0) {
                        found = i * 10 + j;
                    }
                }
            }
        }
        return first ? found : n;
    }

    /** Each way as whom each one has (oneself: left out). */
    private void ways(int[] has, int p, List<int[]> found) {
        int n = now.folk.size();
        if (p == n) {
            int out = 0;
            for (int i = 0; i < n; i++) {
                if (has[has[i]] != i) {
                    return;
                }
                if (has[i] == i) {
                    out++;
                }
            }
            if (out == n % 2) {
                found.add(has.clone());
            }
            return;
        }
        for (int o = 0; o < n; o++) {
            boolean taken = false;
            for (int i = 0; i < p; i++) {
                taken |= has[i] == o;
            }
            if (taken || o < p && has[o] != p) {
                continue;
            }
            has[p] = o;
            ways(has, p + 1, found);
        }
    }

    private boolean stands(int[] has) {
        for (int i = 0; i < has.length; i++) {
            for (int j = 0; j < has.length; j++) {
                if (i != j && has[i] != j) {
                    int[] a = now.folk.get(i).likes;
                    int[] b = now.folk.get(j).likes;
                    boolean iWould = has[i] == i || a[j] > a[has[i]];
                    boolean jWould = has[j] == j || b[i] > b[has[j]];
                    if (iWould && jWould) {
                        return false;
                    }
                }
            }
        }
        return true;
    }

    int steady(int p) {
        if (p != -1) {
            human(p);
        }
        List<int[]> found = new ArrayList<>();
        ways(new int[now.folk.size()], 0, found);
        found.removeIf(has -> !stands(has));
        if (p == -1) {
            return found.size();
        }
        int[] first = null;
        for (int[] has : found) {
            if (first == null || Arrays.compare(ranked(has), ranked(first)) < 0) {
                first = has;
            }
        }
        return first == null ? -1 : first[p];
    }

    private static int[] ranked(int[] has) {
        int[] rank = has.clone();
        for (int i = 0; i < rank.length; i++) {
            if (rank[i] == i) {
                rank[i] = -1;
            }
        }
        return rank;
    }

    int weddings() {
        return mostFrom(new ArrayList<>(), 0);
    }

    private int mostFrom(List<Integer> used, int edge) {
        int n = now.folk.size();
        int most = used.size() / 2;
        for (int e = edge; e < n * n; e++) {
            int i = e / n;
            int j = e % n;
            boolean asked = i < j && (now.folk.get(i).asked.contains(j) || now.folk.get(j).asked.contains(i));
            if (asked && now.spouse(i) < 0 && now.spouse(j) < 0 && !used.contains(i) && !used.contains(j)) {
                List<Integer> more = new ArrayList<>(used);
                more.add(i);
                more.add(j);
                most = Math.max(most, mostFrom(more, e + 1));
            }
        }
        return most;
    }

    // ---- sets told

    private List<Integer> toldSets() {
        String told = taken();
        if (told.length() > 36 || told.length() % 3 != 0) {
            throw new IllegalArgumentException();
        }
        int n = now.folk.size();
        List<Integer> sets = new ArrayList<>();
        for (int set = 0; set < 1 << n; set++) {
            sets.add(set);
        }
        for (int i = 0; i < told.length(); i += 3) {
            int from = told.charAt(i);
            int to = told.charAt(i + 1);
            int many = told.charAt(i + 2);
            if (from > to || to >= n) {
                throw new IllegalArgumentException();
            }
            sets.removeIf(set -> {
                int in = 0;
                for (int p = from; p <= to; p++) {
                    in += set >> p & 1;
                }
                return in != many;
            });
        }
        return sets;
    }

    int anniversary(boolean sure) {
        List<Integer> sets = toldSets();
        int all = sets.isEmpty() ? 0 : (1 << now.folk.size()) - 1;
        for (int set : sets) {
            all &= set;
        }
        return sure ? all : sets.size();
    }

    int dance() {
        List<Integer> sets = toldSets();
        int best = -1;
        int least = Integer.MAX_VALUE;
        for (int p = 0; p < now.folk.size() && sets.size() > 1; p++) {
            int in = 0;
            for (int set : sets) {
                in += set >> p & 1;
            }
            int part = Math.max(in, sets.size() - in);
            if (part < least) {
                least = part;
                best = p;
            }
        }
        return best;
    }

    int richest() {
        int best = -1;
        for (int p = now.folk.size() - 1; p >= 0; p--) {
            Human h = now.folk.get(p);
            if (!h.ruined && (best < 0 || h.wealth >= now.folk.get(best).wealth)) {
                best = p;
            }
        }
        return best;
    }

    private World tried(int n, int seed) {
        World w = now.copy();
        w.seed = seed;
        w.claims = 0;
        for (int i = 0; i < n; i++) {
            w.passMonth();
        }
        return w;
    }

    int trial(int n, boolean ruined) {
        within(n, 0, 40);
        World w = tried(n, now.seed);
        return ruined ? peopleWho(p -> w.folk.get(p).ruined) : w.claims;
    }

    int span(int n, boolean most) {
        within(n, 0, 40);
        TreeSet<Integer> found = new TreeSet<>();
        for (int seed = 1; seed <= 6; seed++) {
            found.add(tried(n, seed).claims);
        }
        return most ? found.last() : found.first();
    }

    private List<int[]> latest() {
        return now.log.subList(Math.max(0, now.log.size() - 60), now.log.size());
    }

    int led(int m, boolean paid) {
        couple(m);
        int sum = 0;
        for (int[] row : latest()) {
            if (row[1] == m) {
                sum += paid ? row[2] : 1;
            }
        }
        return sum;
    }

    int log(int ago, int what) {
        if (what < 0 || what > 3) {
            throw new NoSuchElementException();
        }
        List<int[]> rows = latest();
        return ago < 0 || ago >= rows.size() ? -1 : rows.get(rows.size() - 1 - ago)[what];
    }

    int seed(int n) {
        int before = now.seed;
        now.seed = n;
        return before;
    }

    boolean undo() {
        if (past.isEmpty()) {
            return false;
        }
        now = past.removeLast();
        return true;
    }

    void image() {
        image = now.copy();
    }

    boolean back() {
        if (image == null) {
            return false;
        }
        now = image.copy();
        past.clear();
        return true;
    }

    int count(int what) {
        switch (what) {
            case 0: return now.folk.size();
            case 1: return now.couples.size();
            case 2: return now.texts;
            case 3: return now.law == null ? -1 : now.law.size();
            case 4: return now.month;
            case 5: return now.quarrel;
            case 6: return now.bar;
            case 7: return now.premium;
            case 8: return now.pays;
            case 9: return sumOfWealth();
            case 10: return peopleWho(p -> now.folk.get(p).ruined);
            case 11: return peopleWho(p -> now.spouse(p) >= 0);
            case 12: return now.claims;
            case 13: return latest().size();
            case 14: return past.size();
            default: return -1;
        }
    }
}
