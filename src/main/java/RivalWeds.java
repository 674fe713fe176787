import java.util.NoSuchElementException;

/** Weddings that are insured by whoever else had asked. The face only checks and hands on; the classes inside do the work. */
public final class RivalWeds {
    public static final int NONE = -1;

    private static final int TAPE_MOST = 400;
    private static final int FED_AT_ONCE = 20;
    private static final int PEOPLE_MOST = 8;
    private static final int MATCHES_MOST = 20;
    private static final int TEXTS_MOST = 12;
    private static final int TOWN_LINES_MOST = 14;
    private static final int LAW_LINES_MOST = 12;
    private static final int DEEP_MOST = 6;
    private static final int WEALTH_MOST = 999;
    private static final int HAPPY_MOST = 99;
    private static final int HAPPY_WED = 50;
    private static final int HAPPY_STEP = 5;
    private static final int GIFT_COST = 10;
    private static final int MONTH_MOST = 9999;
    private static final int PREMIUM_MOST = 20;
    private static final int SETTING_MOST = 99;
    private static final int LAW_AMOUNT_MOST = 30;
    private static final int MONTHS_AT_ONCE = 60;
    private static final int AHEAD_MOST = 40;
    private static final int GIFT_MONTHS_MOST = 20;
    private static final int GIFTS_MOST = 40;
    private static final int QUARRELS = 10;
    private static final int SPAN_SEEDS = 6;
    private static final int ACTS_MOST = 12;
    private static final int LOG_MOST = 60;
    private static final int LOG_COLUMNS = 4;
    private static final int TOLD_MOST = 36;

    private final Row tape = new Row(TAPE_MOST);
    private final Town town = new Town();
    private final Law law = new Law();
    private final Town imageTown = new Town();
    private final Law imageLaw = new Law();
    private final Town[] remembered = new Town[ACTS_MOST];
    private final TownText townText = new TownText();
    private final LawText lawText = new LawText();
    private final Look look = new Look();
    private final Foresight foresight = new Foresight();
    private final Pairs pairs = new Pairs();
    private final ToldSets toldSets = new ToldSets();
    private int tapeLength;
    private int wrongByte = NONE;
    private boolean imageKept;
    private int oldestAct;
    private int acts;

    public RivalWeds() {
        for (int i = 0; i < remembered.length; i++) {
            remembered[i] = new Town();
        }
    }

    // ---- the tape and the texts

    public int feed(int a, int b, int c, int d, int e) {
        if (tapeLength + FED_AT_ONCE > TAPE_MOST) {
            return NONE;
        }
        feedNumber(a);
        feedNumber(b);
        feedNumber(c);
        feedNumber(d);
        feedNumber(e);
        return tapeLength;
    }

    private void feedNumber(int number) {
        for (int shift = 24; shift >= 0; shift -= 8) {
            tape.put(tapeLength, (number >> shift) & 255);
            tapeLength++;
        }
    }

    public boolean end(int n) {
        if (n < 0 || n > tapeLength) {
            return false;
        }
        tapeLength = n;
        return true;
    }

    private int useTapeUp() {
        int length = tapeLength;
        tapeLength = 0;
        return length;
    }

    public int town() throws IllegalArgumentException, UnsupportedOperationException {
        townText.draft.copyAll(town);
        townText.linesOf(tape, useTapeUp(), TOWN_LINES_MOST);
        wrongByte = townText.wrong;
        if (wrongByte != NONE) {
            throw new IllegalArgumentException("the text of the town is wrong");
        }
        if (town.texts >= TEXTS_MOST) {
            throw new UnsupportedOperationException("there are 12 texts of the town");
        }
        town.copyAll(townText.draft);
        town.texts++;
        forgetActs();
        return town.texts;
    }

    public int law() throws IllegalArgumentException {
        lawText.draft.clearLines();
        int lines = lawText.linesOf(tape, useTapeUp(), LAW_LINES_MOST);
        wrongByte = lawText.wrong;
        if (wrongByte != NONE) {
            throw new IllegalArgumentException("the text of the law is wrong");
        }
        law.copyAll(lawText.draft);
        forgetActs();
        return lines;
    }

    public int fault() {
        return wrongByte;
    }

    // ---- what is

    public int person(int person, int what) throws IndexOutOfBoundsException, NoSuchElementException {
        checkPerson(person);
        switch (what) {
            case 0:
                return town.wealth.at(person);
            case 1:
                return town.asked.at(person);
            case 2:
                return town.askersOf(person);
            case 3:
                return town.reinsurer.at(person);
            case 4:
                return town.isRuined(person) ? 1 : 0;
            case 5:
                return town.spouseOf(person);
            case 6:
                return town.shareOf(person);
            default:
                throw new NoSuchElementException("a person has no such what");
        }
    }

    public int liking(int person, int other) throws IndexOutOfBoundsException, IllegalArgumentException {
        checkTwo(person, other);
        return town.likingOf(person, other);
    }

    public int match(int match, int what) throws IndexOutOfBoundsException, NoSuchElementException {
        checkMatch(match);
        switch (what) {
            case 0:
                return town.firstOf(match);
            case 1:
                return town.secondOf(match);
            case 2:
                return town.happy.at(match);
            case 3:
                return town.monthsWed.at(match);
            case 4:
                return town.isOver(match) ? 1 : 0;
            case 5:
                return town.insurersOf(match);
            case 6:
                return foresight.turnsNow(town, law, match);
            default:
                throw new NoSuchElementException("a match has no such what");
        }
    }

    // ---- acts

    public boolean ask(int person, int other) throws IndexOutOfBoundsException, IllegalArgumentException {
        checkTwo(person, other);
        remember();
        return town.addAsked(person, other);
    }

    public int wed(int person, int other) throws IndexOutOfBoundsException, IllegalArgumentException,
            IllegalStateException, UnsupportedOperationException {
        checkTwo(person, other);
        if (town.isWed(person) || town.isWed(other)) {
            throw new IllegalStateException("one of both is wed");
        }
        if (town.matches >= MATCHES_MOST) {
            throw new UnsupportedOperationException("there are 20 matches");
        }
        remember();
        return town.addMatch(person, other, HAPPY_WED);
    }

    public int gift(int person, int match) throws IndexOutOfBoundsException, IllegalStateException {
        checkInsurer(person, match);
        if (town.wealth.at(person) < GIFT_COST) {
            throw new IllegalStateException("one has less than 10");
        }
        remember();
        town.wealth.put(person, town.wealth.at(person) - GIFT_COST);
        return town.changeHappy(match, HAPPY_STEP);
    }

    public int meddle(int person, int match) throws IndexOutOfBoundsException, IllegalStateException {
        checkInsurer(person, match);
        remember();
        return town.changeHappy(match, -HAPPY_STEP);
    }

    public int reinsure(int person, int other) throws IndexOutOfBoundsException, IllegalArgumentException {
        checkPerson(person);
        if (other != NONE) {
            checkTwo(person, other);
        }
        remember();
        int before = town.reinsurer.at(person);
        town.reinsurer.put(person, other);
        return before;
    }

    public int part(int match) throws IndexOutOfBoundsException, IllegalStateException {
        checkMatch(match);
        checkGoesOn(match);
        remember();
        town.endMatch(match);
        return town.happy.at(match);
    }

    public int months(int n) throws IllegalArgumentException {
        checkNumber(n, 1, MONTHS_AT_ONCE);
        remember();
        int before = town.claims;
        for (int i = 0; i < n; i++) {
            town.passMonth(law, look);
        }
        return town.claims - before;
    }

    // ---- who would insure, and what is ahead of a match

    public int would(int person, int other) throws IndexOutOfBoundsException, IllegalArgumentException {
        checkTwo(person, other);
        return town.insurersOfPair(person, other);
    }

    public int best(int person) throws IndexOutOfBoundsException {
        checkPerson(person);
        return pairs.bestFor(town, person);
    }

    public int next(int match, int quarrel) throws IndexOutOfBoundsException, IllegalArgumentException {
        checkMatch(match);
        checkQuarrel(quarrel);
        return town.isOver(match) ? 0 : foresight.happyNext(town, law, match, quarrel);
    }

    public int ahead(int match, int n, int quarrel) throws IndexOutOfBoundsException, IllegalArgumentException {
        checkMatch(match);
        checkNumber(n, 0, AHEAD_MOST);
        checkQuarrel(quarrel);
        return town.isOver(match) ? 0 : foresight.happyAhead(town, law, match, n, quarrel);
    }

    public int first(int match, int quarrel) throws IndexOutOfBoundsException, IllegalArgumentException {
        checkMatch(match);
        checkQuarrel(quarrel);
        return town.isOver(match) ? NONE : foresight.firstClaim(town, law, match, quarrel);
    }

    public int odds(int match) throws IndexOutOfBoundsException {
        checkMatch(match);
        return town.isOver(match) ? 0 : foresight.claimQuarrels(town, law, match);
    }

    public int gifts(int match, int n, int quarrel) throws IndexOutOfBoundsException, IllegalArgumentException {
        checkMatch(match);
        checkNumber(n, 1, GIFT_MONTHS_MOST);
        checkQuarrel(quarrel);
        return town.isOver(match) ? NONE : foresight.fewestGifts(town, law, match, n, quarrel);
    }

    // ---- who falls, and who leans on whom

    public int falls() {
        return foresight.fallen(town);
    }

    public int loses(int person) throws IndexOutOfBoundsException {
        checkPerson(person);
        return foresight.lossOf(town, person);
    }

    public int holds(int person) throws IndexOutOfBoundsException {
        checkPerson(person);
        return foresight.leastWealth(town, person);
    }

    public int ring(int person) throws IndexOutOfBoundsException {
        checkPerson(person);
        return town.ringSteps(person);
    }

    public int rings() {
        return town.ringCount();
    }

    public int leans(int person) throws IndexOutOfBoundsException {
        checkPerson(person);
        return town.leaners(person);
    }

    // ---- who would rather have whom

    public int rather(int person) throws IndexOutOfBoundsException {
        checkPerson(person);
        return pairs.preferred(town, person);
    }

    public int lovers(boolean first) {
        return first ? pairs.firstLovers(town) : pairs.loverPairs(town);
    }

    public int steady(int person) throws IndexOutOfBoundsException {
        if (person == NONE) {
            return pairs.steadyWays(town);
        }
        checkPerson(person);
        return pairs.steadyPartner(town, person);
    }

    public int weddings() {
        return pairs.mostWeddings(town);
    }

    // ---- who had asked, by what is told at anniversaries

    public int anniversary(boolean sure) throws IllegalArgumentException {
        readTold();
        return sure ? toldSets.inAll() : toldSets.fitting();
    }

    public int dance() throws IllegalArgumentException {
        readTold();
        return toldSets.bestParter();
    }

    private void readTold() {
        if (!toldSets.reads(tape, useTapeUp(), town.people)) {
            throw new IllegalArgumentException("the tape does not tell rows of people");
        }
    }

    // ---- shares, trials and the log

    public int richest() {
        return town.richestPerson();
    }

    public int trial(int n, boolean ruined) throws IllegalArgumentException {
        checkNumber(n, 0, AHEAD_MOST);
        int claims = foresight.tryMonths(town, law, n, town.seed);
        return ruined ? foresight.ruinedInTrial() : claims;
    }

    public int span(int n, boolean most) throws IllegalArgumentException {
        checkNumber(n, 0, AHEAD_MOST);
        int found = foresight.tryMonths(town, law, n, 1);
        for (int seed = 2; seed <= SPAN_SEEDS; seed++) {
            int claims = foresight.tryMonths(town, law, n, seed);
            found = most ? Math.max(found, claims) : Math.min(found, claims);
        }
        return found;
    }

    public int led(int match, boolean paid) throws IndexOutOfBoundsException {
        checkMatch(match);
        return paid ? town.loggedPaid(match) : town.loggedClaims(match);
    }

    public int log(int ago, int what) throws NoSuchElementException {
        if (what < 0 || what >= LOG_COLUMNS) {
            throw new NoSuchElementException("the log has no such what");
        }
        return ago < 0 || ago >= town.logRows() ? NONE : town.logged(ago, what);
    }

    public int seed(int n) {
        int before = town.seed;
        town.seed = n;
        return before;
    }

    // ---- acts undone, the image, counts

    public boolean undo() {
        if (acts == 0) {
            return false;
        }
        acts--;
        Town before = rememberedTown(oldestAct + acts);
        if (before != null) {
            town.copyAll(before);
        }
        return true;
    }

    private void remember() {
        Town slot = rememberedTown(oldestAct + acts);
        if (slot != null) {
            slot.copyAll(town);
        }
        if (acts < ACTS_MOST) {
            acts++;
        } else {
            oldestAct = (oldestAct + 1) % ACTS_MOST;
        }
    }

    private Town rememberedTown(int turn) {
        int slot = turn % ACTS_MOST;
        return slot >= 0 && slot < remembered.length ? remembered[slot] : null;
    }

    private void forgetActs() {
        acts = 0;
    }

    public void image() {
        imageTown.copyAll(town);
        imageLaw.copyAll(law);
        imageKept = true;
    }

    public boolean back() {
        if (!imageKept) {
            return false;
        }
        town.copyAll(imageTown);
        law.copyAll(imageLaw);
        forgetActs();
        return true;
    }

    public int count(int what) {
        switch (what) {
            case 0:
                return town.people;
            case 1:
                return town.matches;
            case 2:
                return town.texts;
            case 3:
                return law.lines;
            case 4:
                return town.month;
            case 5:
                return town.quarrel;
            case 6:
                return town.bar;
            case 7:
                return town.premium;
            case 8:
                return town.pays;
            case 9:
                return town.wealthOfAll();
            case 10:
                return town.ruined;
            case 11:
                return town.wedPeople();
            case 12:
                return town.claims;
            case 13:
                return town.logRows();
            case 14:
                return acts;
            default:
                return NONE;
        }
    }

    // ---- what is refused

    private void checkPerson(int person) {
        if (!town.hasPerson(person)) {
            throw new IndexOutOfBoundsException("there is no such person");
        }
    }

    private void checkTwo(int person, int other) {
        checkPerson(person);
        checkPerson(other);
        if (person == other) {
            throw new IllegalArgumentException("both are one");
        }
    }

    private void checkMatch(int match) {
        if (match < 0 || match >= town.matches) {
            throw new IndexOutOfBoundsException("there is no such match");
        }
    }

    private void checkGoesOn(int match) {
        if (town.isOver(match)) {
            throw new IllegalStateException("the match is over");
        }
    }

    private void checkInsurer(int person, int match) {
        checkPerson(person);
        checkMatch(match);
        checkGoesOn(match);
        if (!contains(town.insurersOf(match), person)) {
            throw new IllegalStateException("one is no insurer of the match");
        }
    }

    private void checkNumber(int n, int least, int most) {
        if (n < least || n > most) {
            throw new IllegalArgumentException("the number is none");
        }
    }

    private void checkQuarrel(int quarrel) {
        checkNumber(quarrel, 0, QUARRELS - 1);
    }

    private static boolean contains(int set, int one) {
        return (set >> one & 1) != 0;
    }

    private static int happyWithin(int happy) {
        return Math.max(0, Math.min(HAPPY_MOST, happy));
    }

    /** Numbers in a row. Outside of it each reads 0 and none can be put, so that no index is used untested. */
    static final class Row {
        private final int[] cells;

        Row(int length) {
            cells = new int[length > 0 ? length : 0];
        }

        int at(int i) {
            return i >= 0 && i < cells.length ? cells[i] : 0;
        }

        void put(int i, int value) {
            if (i >= 0 && i < cells.length) {
                cells[i] = value;
            }
        }

        void putAll(int value) {
            for (int i = 0; i < cells.length; i++) {
                cells[i] = value;
            }
        }

        void copyAll(Row other) {
            System.arraycopy(other.cells, 0, cells, 0, Math.min(cells.length, other.cells.length));
        }
    }

    /** What a text is made of: its words and signs by their letters, digits, its end, and all else. */
    enum Kind {
        PERSON("person", NONE), LIKES("likes", NONE), ASKED("asked", NONE), REINSURED("reinsured", NONE),
        WED("wed", NONE), BAR("bar", NONE), PREMIUM("premium", NONE), PAYS("pays", NONE),
        LIFT("lift", NONE), SOUR("sour", NONE), IF("if", NONE), OR("or", Law.OR), AND("and", Law.AND),
        NOT("not", Law.NOT), INSURED("insured", Law.INSURED), RICH("rich", Law.RICH),
        HAPPY("happy", Law.HAPPY), MONTHS("months", Law.MONTHS), QUARREL("quarrel", Law.QUARREL),
        INSURERS("insurers", Law.INSURERS), LIKING("liking", Law.LIKING), MONTH("month", Law.MONTH),
        LINE_END(";", NONE), OPEN("(", NONE), CLOSE(")", NONE),
        LESS("<", Law.LESS), MORE(">", Law.MORE), PLUS("+", Law.PLUS),
        DIGITS("", NONE), TEXT_END("", NONE), UNKNOWN("", NONE);

        private static final Kind[] ALL = values();

        private final String letters;
        final int code;

        Kind(String letters, int code) {
            this.letters = letters;
            this.code = code;
        }

        static Kind spelt(Row bytes, int begin, int stop) {
            for (Kind kind : ALL) {
                if (kind.isSpelt(bytes, begin, stop)) {
                    return kind;
                }
            }
            return UNKNOWN;
        }

        private boolean isSpelt(Row bytes, int begin, int stop) {
            if (letters.length() != stop - begin) {
                return false;
            }
            for (int i = 0; i < letters.length(); i++) {
                if (letters.charAt(i) != bytes.at(begin + i)) {
                    return false;
                }
            }
            return true;
        }
    }

    /** A text cut into its things, which are read one by one; the one that cannot stand where it stands is refused. */
    abstract static class Text {
        private static final int TOO_LONG = 1000;

        final Row bytes = new Row(TAPE_MOST);
        private final Kind[] kinds = new Kind[TAPE_MOST];
        private final int[] begins = new int[TAPE_MOST];
        private final int[] stops = new int[TAPE_MOST];
        private final int[] numbers = new int[TAPE_MOST];
        private int things;
        private int length;
        private int index;
        Kind kind = Kind.TEXT_END;
        int begin;
        int stop;
        /** Of digits alone: above all bounds, if they are more than a number may have; none of all else. */
        int number = NONE;
        int wrong = NONE;

        abstract boolean readsLine();

        /** How many lines the text has; none, if it is wrong. */
        final int linesOf(Row tape, int tapeLength, int most) {
            bytes.copyAll(tape);
            length = tapeLength;
            wrong = NONE;
            cut();
            index = NONE;
            advance();
            if (kind == Kind.TEXT_END) {
                return 0;
            }
            for (int line = 1; line <= most; line++) {
                if (!readsLine()) {
                    return NONE;
                }
                if (kind == Kind.TEXT_END) {
                    return line;
                }
                if (!needs(Kind.LINE_END)) {
                    return NONE;
                }
            }
            refuse();
            return NONE;
        }

        private void cut() {
            things = 0;
            int from = 0;
            for (int i = 0; i < TAPE_MOST && from < length; i++) {
                int to = stopOf(from);
                if (bytes.at(from) != ' ') {
                    addThing(from, to);
                }
                from = to;
            }
        }

        private int stopOf(int from) {
            int to = from + 1;
            boolean letters = isLetter(bytes.at(from));
            boolean digits = isDigit(bytes.at(from));
            while (to < length && (letters && isLetter(bytes.at(to)) || digits && isDigit(bytes.at(to)))) {
                to++;
            }
            return to;
        }

        private void addThing(int from, int to) {
            if (things >= 0 && things < kinds.length && things < begins.length && things < stops.length
                    && things < numbers.length) {
                boolean digits = isDigit(bytes.at(from));
                kinds[things] = digits ? Kind.DIGITS : Kind.spelt(bytes, from, to);
                begins[things] = from;
                stops[things] = to;
                numbers[things] = digits ? numberAt(from, to) : NONE;
                things++;
            }
        }

        private int numberAt(int from, int to) {
            if (to - from > 3) {
                return TOO_LONG;
            }
            int sum = 0;
            for (int i = from; i < to; i++) {
                sum = sum * 10 + bytes.at(i) - '0';
            }
            return sum;
        }

        private static boolean isLetter(int sign) {
            return sign >= 'a' && sign <= 'z';
        }

        private static boolean isDigit(int sign) {
            return sign >= '0' && sign <= '9';
        }

        final void advance() {
            index++;
            kind = Kind.TEXT_END;
            begin = length;
            stop = length;
            number = NONE;
            if (index >= 0 && index < things && index < kinds.length && index < begins.length
                    && index < stops.length && index < numbers.length && kinds[index] != null) {
                kind = kinds[index];
                begin = begins[index];
                stop = stops[index];
                number = numbers[index];
            }
        }

        final boolean refuse() {
            wrong = begin;
            return false;
        }

        final boolean takes(Kind wanted) {
            if (kind != wanted) {
                return false;
            }
            advance();
            return true;
        }

        final boolean needs(Kind wanted) {
            if (kind != wanted) {
                return refuse();
            }
            advance();
            return true;
        }

        /** The number that stands here, and goes on; none, and refuses it, if it is none or above the most. */
        final int takeNumber(int most) {
            int taken = number;
            if (taken == NONE || taken > most) {
                refuse();
                return NONE;
            }
            advance();
            return taken;
        }
    }

    /** A text of the town, read into a draft, so that of a wrong one nothing stays. */
    static final class TownText extends Text {
        final Town draft = new Town();

        boolean readsLine() {
            if (kind == Kind.PERSON) {
                return readsPerson();
            }
            if (kind == Kind.LIKES) {
                return readsLikes();
            }
            if (kind == Kind.ASKED || kind == Kind.REINSURED) {
                return readsTwo(kind == Kind.ASKED);
            }
            if (kind == Kind.WED) {
                return readsWed();
            }
            return readsSetting(kind);
        }

        private boolean readsPerson() {
            if (draft.people >= PEOPLE_MOST) {
                return refuse();
            }
            advance();
            int wealth = takeNumber(WEALTH_MOST);
            if (wealth == NONE) {
                return false;
            }
            draft.addPerson(wealth);
            return true;
        }

        private boolean readsLikes() {
            advance();
            int person = takeSomebody(NONE, false);
            if (person == NONE) {
                return false;
            }
            if (kind != Kind.DIGITS || stop - begin != draft.people) {
                return refuse();
            }
            for (int other = 0; other < draft.people; other++) {
                if (other != person) {
                    draft.setLiking(person, other, bytes.at(begin + other) - '0');
                }
            }
            advance();
            return true;
        }

        private boolean readsTwo(boolean asked) {
            advance();
            int person = takeSomebody(NONE, false);
            int other = person == NONE ? NONE : takeSomebody(person, false);
            if (other == NONE) {
                return false;
            }
            if (asked) {
                draft.addAsked(person, other);
            } else {
                draft.reinsurer.put(person, other);
            }
            return true;
        }

        private boolean readsWed() {
            if (draft.matches >= MATCHES_MOST) {
                return refuse();
            }
            advance();
            int person = takeSomebody(NONE, true);
            int other = person == NONE ? NONE : takeSomebody(person, true);
            if (other == NONE || !needs(Kind.HAPPY)) {
                return false;
            }
            int happy = takeNumber(HAPPY_MOST);
            if (happy == NONE) {
                return false;
            }
            draft.addMatch(person, other, happy);
            return true;
        }

        private boolean readsSetting(Kind setting) {
            if (setting != Kind.BAR && setting != Kind.PREMIUM && setting != Kind.PAYS) {
                return refuse();
            }
            advance();
            int set = takeNumber(setting == Kind.PREMIUM ? PREMIUM_MOST : SETTING_MOST);
            if (set == NONE) {
                return false;
            }
            if (setting == Kind.BAR) {
                draft.bar = set;
            } else if (setting == Kind.PREMIUM) {
                draft.premium = set;
            } else {
                draft.pays = set;
            }
            return true;
        }

        /** The person told here, who must be another one than the other, and, where it is asked for, not wed. */
        private int takeSomebody(int other, boolean unwed) {
            int person = number;
            boolean can = draft.hasPerson(person) && person != other && !(unwed && draft.spouseOf(person) != NONE);
            if (!can) {
                refuse();
                return NONE;
            }
            advance();
            return person;
        }
    }

    /** A text of the law, read into a draft. Its conditions become codes, each behind what it joins. */
    static final class LawText extends Text {
        final Law draft = new Law();

        boolean readsLine() {
            boolean lifts = kind == Kind.LIFT;
            if (!lifts && kind != Kind.SOUR) {
                return refuse();
            }
            advance();
            int amount = takeNumber(LAW_AMOUNT_MOST);
            if (amount == NONE || takes(Kind.IF) && !readsEither(0)) {
                return false;
            }
            draft.addLine(lifts ? amount : -amount);
            return true;
        }

        private boolean readsEither(int depth) {
            if (!readsAll(depth)) {
                return false;
            }
            for (int i = 0; i < TAPE_MOST && takes(Kind.OR); i++) {
                if (!readsAll(depth)) {
                    return false;
                }
                draft.addCode(Law.OR);
            }
            return true;
        }

        private boolean readsAll(int depth) {
            if (!readsAtom(depth)) {
                return false;
            }
            for (int i = 0; i < TAPE_MOST && takes(Kind.AND); i++) {
                if (!readsAtom(depth)) {
                    return false;
                }
                draft.addCode(Law.AND);
            }
            return true;
        }

        private boolean readsAtom(int depth) {
            if ((kind == Kind.NOT || kind == Kind.OPEN) && depth >= DEEP_MOST) {
                return refuse();
            }
            if (takes(Kind.OPEN)) {
                return readsEither(depth + 1) && needs(Kind.CLOSE);
            }
            if (kind == Kind.NOT) {
                return readsNot(depth + 1);
            }
            if (kind == Kind.INSURED || kind == Kind.RICH) {
                draft.addCode(kind.code);
                advance();
                return true;
            }
            if (!readsSum()) {
                return false;
            }
            Kind sign = kind;
            if (sign != Kind.LESS && sign != Kind.MORE) {
                return refuse();
            }
            advance();
            boolean reads = readsSum();
            draft.addCode(sign.code);
            return reads;
        }

        private boolean readsNot(int depth) {
            advance();
            boolean reads = readsAtom(depth);
            draft.addCode(Law.NOT);
            return reads;
        }

        private boolean readsSum() {
            for (int part = 0; part < TAPE_MOST; part++) {
                boolean isNumber = number != NONE && number <= Law.NUMBER_MOST;
                if (!isNumber && !Law.isPart(kind.code)) {
                    return refuse();
                }
                draft.addCode(isNumber ? number : kind.code);
                if (part > 0) {
                    draft.addCode(Law.PLUS);
                }
                advance();
                if (kind != Kind.PLUS) {
                    return true;
                }
                advance();
            }
            return refuse();
        }
    }

    /** The law: what each line lifts (or sours, below 0), and the codes of its condition, up to where they end. */
    static final class Law {
        static final int NUMBER_MOST = 999;
        static final int HAPPY = 1000;
        static final int MONTHS = 1001;
        static final int QUARREL = 1002;
        static final int INSURERS = 1003;
        static final int LIKING = 1004;
        static final int MONTH = 1005;
        static final int INSURED = 1006;
        static final int RICH = 1007;
        static final int PLUS = 1008;
        static final int LESS = 1009;
        static final int MORE = 1010;
        static final int AND = 1011;
        static final int OR = 1012;
        static final int NOT = 1013;
        private static final int STACK_MOST = 64;

        private final Row amounts = new Row(LAW_LINES_MOST);
        private final Row ends = new Row(LAW_LINES_MOST);
        private final int[] codes = new int[TAPE_MOST];
        private final Row stack = new Row(STACK_MOST);
        private int codeCount;
        int lines = NONE;

        void clearLines() {
            lines = 0;
            codeCount = 0;
        }

        void addCode(int code) {
            if (codeCount >= 0 && codeCount < codes.length) {
                codes[codeCount] = code;
                codeCount++;
            }
        }

        void addLine(int amount) {
            amounts.put(lines, amount);
            ends.put(lines, codeCount);
            lines++;
        }

        void copyAll(Law other) {
            lines = other.lines;
            codeCount = other.codeCount;
            amounts.copyAll(other.amounts);
            ends.copyAll(other.ends);
            System.arraycopy(other.codes, 0, codes, 0, Math.min(codes.length, other.codes.length));
        }

        static boolean isPart(int code) {
            return code >= HAPPY && code <= MONTH;
        }

        int turnsBy(Look look) {
            if (lines == NONE) {
                return look.liking - look.quarrel;
            }
            int sum = 0;
            int from = 0;
            for (int line = 0; line < lines; line++) {
                int to = ends.at(line);
                if (isMet(from, to, look)) {
                    sum += amounts.at(line);
                }
                from = to;
            }
            return sum;
        }

        private boolean isMet(int from, int to, Look look) {
            if (from >= to) {
                return true;
            }
            int top = 0;
            for (int i = from; i < to && i < codes.length; i++) {
                int code = i >= 0 ? codes[i] : 0;
                if (code < PLUS) {
                    stack.put(top, look.valueOf(code));
                    top++;
                } else if (code == NOT) {
                    stack.put(top - 1, 1 - stack.at(top - 1));
                } else {
                    top--;
                    stack.put(top - 1, joined(code, stack.at(top - 1), stack.at(top)));
                }
            }
            return stack.at(0) != 0;
        }

        private static int joined(int code, int left, int right) {
            switch (code) {
                case PLUS:
                    return left + right;
                case LESS:
                    return left < right ? 1 : 0;
                case MORE:
                    return left > right ? 1 : 0;
                case AND:
                    return left & right;
                default:
                    return left | right;
            }
        }
    }

    /** A match as the law looks at it, now or in months ahead. */
    static final class Look {
        int happy;
        int months;
        int quarrel;
        int insurers;
        int liking;
        int month;
        boolean rich;

        int valueOf(int code) {
            switch (code) {
                case Law.HAPPY:
                    return happy;
                case Law.MONTHS:
                    return months;
                case Law.QUARREL:
                    return quarrel;
                case Law.INSURERS:
                    return insurers;
                case Law.LIKING:
                    return liking;
                case Law.MONTH:
                    return month % 12;
                case Law.INSURED:
                    return insurers > 0 ? 1 : 0;
                case Law.RICH:
                    return rich ? 1 : 0;
                default:
                    return code;
            }
        }

        int happyTurned(Law law) {
            return happyWithin(happy + law.turnsBy(this));
        }

        /** As in months ahead: from 0 on it stays 0. */
        int happyBehindMonth(Law law) {
            return happy == 0 ? 0 : happyTurned(law);
        }

        void passTime() {
            months++;
            month = Math.min(MONTH_MOST, month + 1);
        }
    }

    /** All that may be undone or kept in an image, but for the law. */
    static final class Town {
        final Row wealth = new Row(PEOPLE_MOST);
        final Row asked = new Row(PEOPLE_MOST);
        final Row reinsurer = new Row(PEOPLE_MOST);
        private final Row likings = new Row(PEOPLE_MOST * PEOPLE_MOST);
        private final Row both = new Row(2 * MATCHES_MOST);
        final Row happy = new Row(MATCHES_MOST);
        final Row monthsWed = new Row(MATCHES_MOST);
        private final Row logCells = new Row(LOG_MOST * LOG_COLUMNS);
        int people;
        int ruined;
        int matches;
        private int over;
        int bar = 20;
        int premium = 1;
        int pays = 10;
        int month;
        int quarrel;
        int seed = 1;
        int texts;
        int claims;

        void copyAll(Town other) {
            copyPurses(other);
            asked.copyAll(other.asked);
            reinsurer.copyAll(other.reinsurer);
            likings.copyAll(other.likings);
            both.copyAll(other.both);
            happy.copyAll(other.happy);
            monthsWed.copyAll(other.monthsWed);
            logCells.copyAll(other.logCells);
            people = other.people;
            matches = other.matches;
            over = other.over;
            bar = other.bar;
            premium = other.premium;
            pays = other.pays;
            month = other.month;
            quarrel = other.quarrel;
            seed = other.seed;
            texts = other.texts;
            claims = other.claims;
        }

        void copyPurses(Town other) {
            wealth.copyAll(other.wealth);
            ruined = other.ruined;
        }

        // -- people

        boolean hasPerson(int person) {
            return person >= 0 && person < people;
        }

        void addPerson(int ownWealth) {
            wealth.put(people, ownWealth);
            reinsurer.put(people, NONE);
            people++;
        }

        int likingOf(int person, int other) {
            return likings.at(person * PEOPLE_MOST + other);
        }

        void setLiking(int person, int other, int liking) {
            likings.put(person * PEOPLE_MOST + other, liking);
        }

        boolean addAsked(int person, int other) {
            int before = asked.at(person);
            asked.put(person, before | 1 << other);
            return !contains(before, other);
        }

        int askersOf(int person) {
            int set = 0;
            for (int other = 0; other < people; other++) {
                if (contains(asked.at(other), person)) {
                    set |= 1 << other;
                }
            }
            return set;
        }

        boolean isRuined(int person) {
            return (ruined >> person & 1) != 0;
        }

        int wealthOfAll() {
            int sum = 0;
            for (int person = 0; person < people; person++) {
                sum += wealth.at(person);
            }
            return sum;
        }

        int shareOf(int person) {
            int all = wealthOfAll();
            return all <= 0 ? 0 : wealth.at(person) * 100 / all;
        }

        int richestPerson() {
            int richest = NONE;
            for (int person = 0; person < people; person++) {
                if (!isRuined(person) && (richest == NONE || wealth.at(person) > wealth.at(richest))) {
                    richest = person;
                }
            }
            return richest;
        }

        // -- reinsurers

        int ringSteps(int person) {
            int at = reinsurer.at(person);
            for (int steps = 1; steps <= people && at != NONE; steps++) {
                if (at == person) {
                    return steps;
                }
                at = reinsurer.at(at);
            }
            return NONE;
        }

        int ringCount() {
            int rings = 0;
            for (int person = 0; person < people; person++) {
                if (ringSteps(person) != NONE && isLeastOfRing(person)) {
                    rings++;
                }
            }
            return rings;
        }

        private boolean isLeastOfRing(int person) {
            int at = reinsurer.at(person);
            for (int steps = 1; steps <= people && at != NONE && at != person; steps++) {
                if (at < person) {
                    return false;
                }
                at = reinsurer.at(at);
            }
            return true;
        }

        int leaners(int person) {
            int set = 0;
            for (int other = 0; other < people; other++) {
                if (comesTo(other, person)) {
                    set |= 1 << other;
                }
            }
            return set;
        }

        private boolean comesTo(int from, int person) {
            int at = reinsurer.at(from);
            for (int steps = 1; steps <= people && at != NONE; steps++) {
                if (at == person) {
                    return true;
                }
                at = reinsurer.at(at);
            }
            return false;
        }

        // -- matches

        int firstOf(int match) {
            return both.at(2 * match);
        }

        int secondOf(int match) {
            return both.at(2 * match + 1);
        }

        boolean isOver(int match) {
            return (over >> match & 1) != 0;
        }

        void endMatch(int match) {
            over |= 1 << match;
        }

        int addMatch(int person, int other, int startHappy) {
            int match = matches;
            both.put(2 * match, person);
            both.put(2 * match + 1, other);
            happy.put(match, startHappy);
            monthsWed.put(match, 0);
            matches++;
            return match;
        }

        int changeHappy(int match, int more) {
            happy.put(match, happyWithin(happy.at(match) + more));
            return happy.at(match);
        }

        int spouseOf(int person) {
            for (int match = 0; match < matches; match++) {
                if (!isOver(match) && firstOf(match) == person) {
                    return secondOf(match);
                }
                if (!isOver(match) && secondOf(match) == person) {
                    return firstOf(match);
                }
            }
            return NONE;
        }

        boolean isWed(int person) {
            return spouseOf(person) != NONE;
        }

        int wedPeople() {
            int set = 0;
            for (int person = 0; person < people; person++) {
                if (isWed(person)) {
                    set |= 1 << person;
                }
            }
            return set;
        }

        int insurersOfPair(int one, int two) {
            int set = 0;
            int pair = 1 << one | 1 << two;
            for (int person = 0; person < people; person++) {
                if (!contains(pair | ruined, person) && (asked.at(person) & pair) != 0) {
                    set |= 1 << person;
                }
            }
            return Integer.bitCount(set) < 2 ? 0 : set;
        }

        int insurersOf(int match) {
            return isOver(match) ? 0 : insurersOfPair(firstOf(match), secondOf(match));
        }

        void lookAt(int match, int byQuarrel, Look look) {
            int one = firstOf(match);
            int two = secondOf(match);
            look.happy = happy.at(match);
            look.months = monthsWed.at(match);
            look.quarrel = byQuarrel;
            look.insurers = Integer.bitCount(insurersOf(match));
            look.liking = likingOf(one, two) + likingOf(two, one);
            look.month = month;
            look.rich = wealth.at(one) + wealth.at(two) > 99;
        }

        // -- months

        void passMonth(Law law, Look look) {
            seed = 1103515245 * seed + 12345;
            quarrel = (seed >> 16 & 0x7fff) % QUARRELS;
            for (int match = 0; match < matches; match++) {
                if (!isOver(match)) {
                    passMatch(match, law, look);
                }
            }
            month = Math.min(MONTH_MOST, month + 1);
        }

        private void passMatch(int match, Law law, Look look) {
            payPremiums(match);
            lookAt(match, quarrel, look);
            happy.put(match, look.happyTurned(law));
            monthsWed.put(match, monthsWed.at(match) + 1);
            if (happy.at(match) < bar) {
                int insurers = insurersOf(match);
                addToLog(match, payClaim(match), insurers);
            }
            if (happy.at(match) == 0) {
                endMatch(match);
            }
        }

        private void payPremiums(int match) {
            int insurers = insurersOf(match);
            for (int person = 0; person < people; person++) {
                if (contains(insurers, person)) {
                    int fromFirst = take(firstOf(match), premium);
                    int fromSecond = take(secondOf(match), premium - fromFirst);
                    give(person, fromFirst + fromSecond);
                }
            }
        }

        /** What is paid in all. The insurers are those at its begin: who is ruined meanwhile pays what there is. */
        int payClaim(int match) {
            int insurers = insurersOf(match);
            int paid = 0;
            for (int person = 0; person < people; person++) {
                if (contains(insurers, person)) {
                    paid += payOut(person);
                }
            }
            give(firstOf(match), paid / 2);
            give(secondOf(match), paid - paid / 2);
            return paid;
        }

        private int payOut(int person) {
            int helper = reinsurer.at(person);
            if (helper != NONE && !isRuined(helper)) {
                ruinIfShort(helper, pays / 2);
                give(person, take(helper, pays / 2));
            }
            ruinIfShort(person, pays);
            return take(person, pays);
        }

        private void ruinIfShort(int person, int amount) {
            if (wealth.at(person) < amount) {
                ruined |= 1 << person;
            }
        }

        private int take(int person, int amount) {
            int taken = Math.min(wealth.at(person), amount);
            wealth.put(person, wealth.at(person) - taken);
            return taken;
        }

        private void give(int person, int amount) {
            wealth.put(person, Math.min(WEALTH_MOST, wealth.at(person) + amount));
        }

        // -- the log: claims in all tell where in the circle the next row comes

        private void addToLog(int match, int paid, int insurers) {
            int cell = claims % LOG_MOST * LOG_COLUMNS;
            logCells.put(cell, month);
            logCells.put(cell + 1, match);
            logCells.put(cell + 2, paid);
            logCells.put(cell + 3, insurers);
            claims++;
        }

        int logRows() {
            return Math.min(LOG_MOST, claims);
        }

        int logged(int ago, int what) {
            return logCells.at((claims - 1 - ago) % LOG_MOST * LOG_COLUMNS + what);
        }

        int loggedClaims(int match) {
            int rows = 0;
            for (int ago = 0; ago < logRows(); ago++) {
                if (logged(ago, 1) == match) {
                    rows++;
                }
            }
            return rows;
        }

        int loggedPaid(int match) {
            int paid = 0;
            for (int ago = 0; ago < logRows(); ago++) {
                if (logged(ago, 1) == match) {
                    paid += logged(ago, 2);
                }
            }
            return paid;
        }
    }

    /** What is ahead: tried on a look or on a town of its own, so that nothing stays. */
    static final class Foresight {
        private static final int FAR = GIFTS_MOST + 1;

        private final Town scratch = new Town();
        private final Look look = new Look();
        private final Row cost = new Row(HAPPY_MOST + 1);
        private final Row costBehind = new Row(HAPPY_MOST + 1);

        // -- one match

        int turnsNow(Town town, Law law, int match) {
            town.lookAt(match, town.quarrel, look);
            return law.turnsBy(look);
        }

        int happyNext(Town town, Law law, int match, int quarrel) {
            town.lookAt(match, quarrel, look);
            return look.happyTurned(law);
        }

        int happyAhead(Town town, Law law, int match, int n, int quarrel) {
            town.lookAt(match, quarrel, look);
            for (int i = 0; i < n; i++) {
                look.happy = look.happyBehindMonth(law);
                look.passTime();
            }
            return look.happy;
        }

        int firstClaim(Town town, Law law, int match, int quarrel) {
            town.lookAt(match, quarrel, look);
            for (int n = 1; n <= AHEAD_MOST; n++) {
                look.happy = look.happyBehindMonth(law);
                look.passTime();
                if (look.happy < town.bar) {
                    return n;
                }
            }
            return NONE;
        }

        int claimQuarrels(Town town, Law law, int match) {
            town.lookAt(match, 0, look);
            int claims = 0;
            for (int quarrel = 0; quarrel < QUARRELS; quarrel++) {
                look.quarrel = quarrel;
                if (look.happyTurned(law) < town.bar) {
                    claims++;
                }
            }
            return claims;
        }

        /** The fewest gifts by which each happiness can be had, month by month: the law may sour what is too happy. */
        int fewestGifts(Town town, Law law, int match, int n, int quarrel) {
            town.lookAt(match, quarrel, look);
            cost.putAll(FAR);
            cost.put(look.happy, 0);
            for (int i = 0; i < n; i++) {
                addGifts();
                passCosts(law, town.bar);
            }
            int fewest = FAR;
            for (int happy = 0; happy <= HAPPY_MOST; happy++) {
                fewest = Math.min(fewest, cost.at(happy));
            }
            return fewest < FAR ? fewest : NONE;
        }

        private void addGifts() {
            for (int happy = 0; happy < HAPPY_MOST; happy++) {
                int lifted = happyWithin(happy + HAPPY_STEP);
                cost.put(lifted, Math.min(cost.at(lifted), cost.at(happy) + 1));
            }
        }

        private void passCosts(Law law, int bar) {
            costBehind.putAll(FAR);
            for (int happy = 0; happy <= HAPPY_MOST; happy++) {
                if (cost.at(happy) < FAR) {
                    look.happy = happy;
                    int behind = look.happyBehindMonth(law);
                    if (behind >= bar) {
                        costBehind.put(behind, Math.min(costBehind.at(behind), cost.at(happy)));
                    }
                }
            }
            cost.copyAll(costBehind);
            look.passTime();
        }

        // -- if all claim at once

        private void claimAll() {
            for (int match = 0; match < scratch.matches; match++) {
                if (!scratch.isOver(match)) {
                    scratch.payClaim(match);
                }
            }
        }

        int fallen(Town town) {
            scratch.copyAll(town);
            claimAll();
            return scratch.ruined & ~town.ruined;
        }

        int lossOf(Town town, int person) {
            scratch.copyAll(town);
            claimAll();
            return Math.max(0, town.wealth.at(person) - scratch.wealth.at(person));
        }

        /**
         * Who does not fall with some wealth pays all that is asked, and so changes nothing for the others with more:
         * with more wealth one does not fall either, and halving finds the least.
         */
        int leastWealth(Town town, int person) {
            scratch.copyAll(town);
            int least = 0;
            int enough = WEALTH_MOST + 1;
            for (int i = 0; i < WEALTH_MOST && least < enough; i++) {
                int tried = (least + enough) / 2;
                scratch.copyPurses(town);
                scratch.wealth.put(person, tried);
                claimAll();
                if (contains(scratch.ruined & ~town.ruined, person)) {
                    least = tried + 1;
                } else {
                    enough = tried;
                }
            }
            return enough > WEALTH_MOST ? NONE : enough;
        }

        // -- trials

        /** How many claims there are in so many months from the seed. */
        int tryMonths(Town town, Law law, int n, int seed) {
            scratch.copyAll(town);
            scratch.seed = seed;
            for (int i = 0; i < n; i++) {
                scratch.passMonth(law, look);
            }
            return scratch.claims - town.claims;
        }

        int ruinedInTrial() {
            return scratch.ruined;
        }
    }

    /** Who would have whom: likings, and all ways to put people into pairs. */
    static final class Pairs {
        private final Row partner = new Row(PEOPLE_MOST);
        private final Row firstWay = new Row(PEOPLE_MOST);
        private int ways;

        int bestFor(Town town, int person) {
            int best = NONE;
            if (town.isWed(person)) {
                return best;
            }
            for (int other = 0; other < town.people; other++) {
                if (other != person && !town.isWed(other)
                        && (best == NONE || isBetter(town, person, other, best))) {
                    best = other;
                }
            }
            return best;
        }

        private static boolean isBetter(Town town, int person, int other, int best) {
            int more = Integer.bitCount(town.insurersOfPair(person, other))
                    - Integer.bitCount(town.insurersOfPair(person, best));
            return more > 0 || more == 0 && town.likingOf(person, other) > town.likingOf(person, best);
        }

        int preferred(Town town, int person) {
            int spouse = town.spouseOf(person);
            int least = spouse == NONE ? 0 : town.likingOf(person, spouse);
            int set = 0;
            for (int other = 0; other < town.people; other++) {
                if (other != person && town.likingOf(person, other) > least) {
                    set |= 1 << other;
                }
            }
            return set;
        }

        private boolean areLovers(Town town, int one, int other) {
            return !town.isRuined(one) && !town.isRuined(other)
                    && contains(preferred(town, one), other) && contains(preferred(town, other), one);
        }

        int loverPairs(Town town) {
            int found = 0;
            for (int one = 0; one < town.people; one++) {
                for (int other = one + 1; other < town.people; other++) {
                    if (areLovers(town, one, other)) {
                        found++;
                    }
                }
            }
            return found;
        }

        int firstLovers(Town town) {
            for (int one = 0; one < town.people; one++) {
                for (int other = one + 1; other < town.people; other++) {
                    if (areLovers(town, one, other)) {
                        return 10 * one + other;
                    }
                }
            }
            return NONE;
        }

        // -- ways that nobody would leave; who has oneself is left out

        int steadyWays(Town town) {
            ways = 0;
            partner.putAll(NONE);
            pairUp(town, town.people % 2 == 1, 0);
            return ways;
        }

        int steadyPartner(Town town, int person) {
            return steadyWays(town) == 0 ? NONE : firstWay.at(person);
        }

        /** The first one without a partner has each in turn, left out ahead of all, so that the first way comes first. */
        private void pairUp(Town town, boolean leavesOneOut, int depth) {
            int one = firstWithout(town.people);
            if (one == NONE) {
                countIfSteady(town);
                return;
            }
            if (depth >= PEOPLE_MOST) {
                return;
            }
            if (leavesOneOut) {
                tryPair(town, one, one, false, depth);
            }
            for (int other = one + 1; other < town.people; other++) {
                if (partner.at(other) == NONE) {
                    tryPair(town, one, other, leavesOneOut, depth);
                }
            }
        }

        private void tryPair(Town town, int one, int other, boolean leavesOneOut, int depth) {
            partner.put(one, other);
            partner.put(other, one);
            pairUp(town, leavesOneOut, depth + 1);
            partner.put(one, NONE);
            partner.put(other, NONE);
        }

        private int firstWithout(int people) {
            for (int person = 0; person < people; person++) {
                if (partner.at(person) == NONE) {
                    return person;
                }
            }
            return NONE;
        }

        private void countIfSteady(Town town) {
            for (int one = 0; one < town.people; one++) {
                for (int other = one + 1; other < town.people; other++) {
                    if (wouldLeaveFor(town, one, other) && wouldLeaveFor(town, other, one)) {
                        return;
                    }
                }
            }
            if (ways == 0) {
                firstWay.copyAll(partner);
            }
            ways++;
        }

        private boolean wouldLeaveFor(Town town, int person, int other) {
            int now = partner.at(person);
            return now == person || town.likingOf(person, other) > town.likingOf(person, now);
        }

        // -- the most weddings

        int mostWeddings(Town town) {
            int free = 0;
            for (int person = 0; person < town.people; person++) {
                if (!town.isWed(person)) {
                    free |= 1 << person;
                }
            }
            return mostPairs(town, free, 0);
        }

        /** Of those from one on who are free: one goes without, or with each whom one asked or was asked by. */
        private static int mostPairs(Town town, int free, int one) {
            if (one >= town.people || one >= PEOPLE_MOST) {
                return 0;
            }
            int most = mostPairs(town, free, one + 1);
            if (contains(free, one)) {
                int asking = town.asked.at(one) | town.askersOf(one);
                for (int other = one + 1; other < town.people; other++) {
                    if (contains(free & asking, other)) {
                        most = Math.max(most, 1 + mostPairs(town, free & ~(1 << other), one + 1));
                    }
                }
            }
            return most;
        }
    }

    /** The sets of people that fit what is told of rows of them. */
    static final class ToldSets {
        private final Row rowSets = new Row(TOLD_MOST / 3);
        private final Row rowCounts = new Row(TOLD_MOST / 3);
        private final Row countsWith = new Row(PEOPLE_MOST);
        private int rows;
        private int people;

        boolean reads(Row tape, int length, int peopleNow) {
            rows = 0;
            people = peopleNow;
            if (length > TOLD_MOST || length % 3 != 0) {
                return false;
            }
            for (int i = 0; i < length; i += 3) {
                int from = tape.at(i);
                int to = tape.at(i + 1);
                if (from > to || to >= people) {
                    return false;
                }
                rowSets.put(rows, (1 << to + 1) - (1 << from));
                rowCounts.put(rows, tape.at(i + 2));
                rows++;
            }
            return true;
        }

        private boolean fits(int set) {
            for (int row = 0; row < rows; row++) {
                if (Integer.bitCount(set & rowSets.at(row)) != rowCounts.at(row)) {
                    return false;
                }
            }
            return true;
        }

        /** How many sets fit; on the way it is counted in how many of them each one is. */
        int fitting() {
            int found = 0;
            countsWith.putAll(0);
            for (int set = 0; set < 1 << people; set++) {
                if (fits(set)) {
                    found++;
                    addMembers(set);
                }
            }
            return found;
        }

        private void addMembers(int set) {
            for (int person = 0; person < people; person++) {
                if (contains(set, person)) {
                    countsWith.put(person, countsWith.at(person) + 1);
                }
            }
        }

        int inAll() {
            int all = fitting();
            int sure = 0;
            for (int person = 0; person < people && all > 0; person++) {
                if (countsWith.at(person) == all) {
                    sure |= 1 << person;
                }
            }
            return sure;
        }

        int bestParter() {
            int all = fitting();
            int best = NONE;
            int bestPart = all;
            for (int person = 0; person < people && all > 1; person++) {
                int with = countsWith.at(person);
                int part = Math.max(with, all - with);
                if (best == NONE || part < bestPart) {
                    best = person;
                    bestPart = part;
                }
            }
            return best;
        }
    }
}
