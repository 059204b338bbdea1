/** A fire brigade that is a gentlemen's club: it comes only if it is asked. See ../shared/DOC.md. */
public final class AskedFire {
    public static final int BAD = -1, NOT = -2, FULL = -3, STATE = -5, VOID = -2000000000;

    private static final int NOTHING_THERE = -11, OTHER_KIND = -12, NO_PLACE = -13, SIZE_BELOW_ZERO = -14;
    // Long.MIN_VALUE, by its bits.
    private static final long NO_PART = 1L << 63;

    private static final int HOUSES = 6, CARDS = 12, LAST_DAY = 29, ANY_DAY = -1, SHELVES = 6;
    private static final int TWELVE = 12, NO_HOUSE_IN_ROW = 6, LONGEST_BELIEF = 12;
    private static final int FAULT_BASE = -100, LED_BY_HOUSE = 10;

    // What mend() and of() name by "what"; a row of 30 numbers each.
    private static final int CELL = 0, RISK = 1, CAKE = 2, FEUD = 3, WOOD = 4, DRY = 5, DAY = 6, NOW = 7;
    private static final int ROW_OF_NUMBERS = 30;
    private static final int[] LEAST = {0, 0, 0, 0, 1, 0, -1, 0};
    private static final int[] MOST = {143, 12, 9, 9, 9, 9, 29, 29};
    private static final int STANDS = 8, OWNER = 9, USED = 10;

    private static final int DAYS_LED = 0, VISITS_LED = 1, SAVED_LED = 2, BURNT_LED = 3, BUILT_LED = 4, LED_SORTS = 5;

    private final Club club = new Club();
    private final Law text = new Law();
    private final Thought thought = new Thought(club, text);
    private final Planner planner = new Planner(club);
    private final Engine engine = new Engine(club);
    private final Changes changes = new Changes();
    private final Image kept = new Image();
    private final Gentlemen gentlemen = new Gentlemen();
    private final Shelf[] shelves = new Shelf[SHELVES];

    public AskedFire() {
        for (int i = 0; i < SHELVES; i++) {
            shelves[i] = new Shelf();
        }
    }

    // ---- houses, cards

    public int house(int cell) {
        if (!isValue(CELL, cell)) {
            return BAD;
        }
        return club.addHouse(cell);
    }

    public int card(int house, int day) {
        if (!club.isHouse(house) || !isValue(DAY, day)) {
            return BAD;
        }
        return club.addCard(house, day);
    }

    public int cards(int shelf, int i, int n) {
        if (!isShelf(shelf) || n < 1 || n > CARDS) {
            return BAD;
        }
        Shelf row = shelves[shelf];
        if (row.isEmpty()) {
            return 0;
        }
        if (!row.holdsBytes()) {
            return OTHER_KIND;
        }
        return i < 0 ? 0 : cardsFrom(row, i, n);
    }

    private int cardsFrom(Shelf row, int i, int n) {
        int came = 0;
        // Places are told apart by what is left of the row, so that a huge i can't wrap.
        while (came < n && i < row.length - 1) {
            int owner = (int) row.elements[i];
            int day = (int) row.elements[i + 1];
            if (!club.isHouse(owner) || !isValue(DAY, day) || club.addCard(owner, day) < 0) {
                return came;
            }
            came++;
            i += 2;
        }
        return came;
    }

    public int mend(int number, int what, int v) {
        if (!club.isNumber(what, number) || !isValue(what, v)) {
            return VOID;
        }
        int before = club.get(what, number);
        if (before != v) {
            changes.add(what, number, before, v);
            club.set(what, number, v);
        }
        return before;
    }

    public int of(int number, int what) {
        if (what == STANDS) {
            return club.isHouse(number) ? bit(club.standing, number) : VOID;
        }
        if (what == OWNER) {
            return club.isCard(number) ? club.owner[number] : VOID;
        }
        if (what == USED) {
            return club.isCard(number) ? bit(club.used, number) : VOID;
        }
        return club.isNumber(what, number) ? club.get(what, number) : VOID;
    }

    public int feed(int letter) {
        if (letter < 0 || letter > 255) {
            return BAD;
        }
        return text.takeByte(letter) ? text.fed : FULL;
    }

    public int law() {
        int fault = text.takeTape();
        return fault < 0 ? 1 : FAULT_BASE - fault;
    }

    public int likes(int card, int day) {
        if (!club.isCard(card) || !club.isToCome(day)) {
            return VOID;
        }
        thought.begin();
        thought.spendUntil(day);
        return thought.liking(club.owner[card], day);
    }

    // ---- days in thought

    public int accepts(int day, int what) {
        if (!club.isToCome(day) || what < 0 || what > 1) {
            return BAD;
        }
        thought.begin();
        thought.spendUntil(day);
        int card = thought.choice(day);
        return card < 0 || what == 0 ? card : club.owner[card];
    }

    public int visits(int house, int day) {
        if (!club.isHouse(house) || !club.isToCome(day)) {
            return BAD;
        }
        thought.begin();
        thought.spendUntil(day + 1);
        return thought.been[house] - club.been[house];
    }

    public int first(int what) {
        if (what == 0) {
            return firstDayAlone();
        }
        return what == 1 ? driest() : BAD;
    }

    private int firstDayAlone() {
        thought.begin();
        for (int day = club.now(); day <= LAST_DAY; day++) {
            if (thought.spend(day) < 0) {
                return day;
            }
        }
        return NOT;
    }

    private int driest() {
        int best = club.now();
        for (int day = best + 1; day <= LAST_DAY; day++) {
            if (club.get(DRY, day) > club.get(DRY, best)) {
                best = day;
            }
        }
        return best;
    }

    public int odds(int house, int day) {
        if (!club.isHouse(house) || !club.isNumber(DRY, day)) {
            return BAD;
        }
        return club.fire(house, day);
    }

    public long burns(int house, int t, int part) {
        if (!club.isHouse(house) || t < 0 || t > 8 || !isPart(part)) {
            return NO_PART;
        }
        if (bit(club.standing, house) == 0) {
            return 1;
        }
        thought.weighDays(t);
        return fraction(thought.whole - thought.spared[house], thought.whole, part);
    }

    public long mean(int t, int part) {
        if (t < 0 || t > 4 || !isPart(part)) {
            return NO_PART;
        }
        thought.weighDays(t);
        long burnt = 0;
        for (int house = 0; house < club.houses; house++) {
            if (bit(club.standing, house) == 1) {
                burnt += thought.whole - thought.spared[house];
            }
        }
        return fraction(burnt, thought.whole, part);
    }

    public long plan(int t, int part) {
        if (t < 0 || t > 4 || !isPart(part)) {
            return NO_PART;
        }
        planner.work(t);
        return fraction(planner.least, planner.whole, part);
    }

    public int planned(int t, int k) {
        if (t < 0 || t > 4 || k < 0 || k >= t) {
            return BAD;
        }
        planner.work(t);
        return k < planner.days ? planner.best[k] : NOT;
    }

    public int ask(int house) {
        if (!club.isHouse(house)) {
            return BAD;
        }
        if (bit(club.standing, house) == 0 || club.cards == CARDS) {
            return NOT;
        }
        int best = NOT;
        int most = -1;
        thought.begin();
        for (int day = club.now(); day <= LAST_DAY; day++) {
            int odds = club.fire(house, day);
            if (odds > most && thought.wins(house, day)) {
                most = odds;
                best = day;
            }
            // One more card for this day changes no day ahead of it, so one run of days serves for all.
            thought.spend(day);
        }
        return best;
    }

    public int sweeten(int house, int day, int what) {
        if (!club.isHouse(house) || !club.isToCome(day) || what < 0 || what > 1) {
            return BAD;
        }
        return what == 0 ? firstThatBrings(house, day, CAKE, 0, 1) : firstThatBrings(house, day, FEUD, 9, -1);
    }

    private int firstThatBrings(int house, int day, int what, int from, int step) {
        int before = club.get(what, house);
        int found = NOT;
        for (int i = 0; i <= 9 && found < 0; i++) {
            int v = from + i * step;
            club.set(what, house, v);
            if (thought.visitedOn(day) == house) {
                found = v;
            }
        }
        club.set(what, house, before);
        return found;
    }

    // ---- evenings, beliefs, lists

    public int evening(int set, int k) {
        if (!club.areHouses(set) || k < -2) {
            return BAD;
        }
        engine.work(set);
        if (k == -1) {
            return engine.fewest;
        }
        if (k == -2) {
            return engine.sum;
        }
        return k < engine.size ? engine.best[k] : NOT;
    }

    public long belief(int shelf, int house, int x, int part) {
        if (!isShelf(shelf) || !club.isHouse(house) || x < 0 || x > TWELVE || !isPart(part)
                || !shelves[shelf].holdsBytes()) {
            return NO_PART;
        }
        Shelf row = shelves[shelf];
        int days = Math.min(Math.min(row.length, LONGEST_BELIEF), LAST_DAY + 1 - club.now());
        // 1 by 13 ahead: the weights of "its own fires" and "any fires" are 1 and 12.
        long own = 1;
        long any = 12;
        for (int i = 0; i < days; i++) {
            long seen = row.elements[i];
            if (seen < 0 || seen > 3) {
                break;
            }
            boolean burned = seen % 2 == 1;
            own *= weight(seen >= 2 ? x : 0, burned);
            any *= weight(club.fire(house, club.now() + i), burned);
        }
        if (own + any == 0) {
            return part == 0 ? NOT : 1;
        }
        return fraction(own, own + any, part);
    }

    private static int weight(int odds, boolean burned) {
        return burned ? odds : TWELVE - odds;
    }

    public int lists(int what) {
        if (what == 0) {
            return clash();
        }
        if (what == 1) {
            return without();
        }
        return what == 2 ? match() : BAD;
    }

    private int clash() {
        int days = 0;
        for (int day = 0; day <= LAST_DAY; day++) {
            int owners = 0;
            for (int card = 0; card < club.cards; card++) {
                if (club.get(DAY, card) == day) {
                    owners |= 1 << club.owner[card];
                }
            }
            if (Integer.bitCount(owners & club.standing) >= 2) {
                days |= 1 << day;
            }
        }
        return days;
    }

    private int without() {
        int asked = 0;
        for (int day = club.now(); day <= LAST_DAY; day++) {
            asked |= club.askedFor(day);
        }
        return club.standing & ~asked;
    }

    private int match() {
        // Bit m: the HOUSES of the set m can each have had a day of their own.
        long reached = 1;
        for (int day = club.now(); day <= LAST_DAY; day++) {
            int asked = club.askedFor(day);
            long before = reached;
            for (int set = 0; set < 1 << HOUSES; set++) {
                if ((before >>> set & 1) == 1) {
                    reached |= withOneMore(set, asked);
                }
            }
        }
        int most = 0;
        for (int set = 0; set < 1 << HOUSES; set++) {
            if ((reached >>> set & 1) == 1) {
                most = Math.max(most, Integer.bitCount(set));
            }
        }
        return most;
    }

    private static long withOneMore(int set, int asked) {
        long sets = 0;
        for (int house = 0; house < HOUSES; house++) {
            if (bit(asked, house) == 1) {
                sets |= 1L << (set | 1 << house);
            }
        }
        return sets;
    }

    public int judge(int shelf) {
        if (!isShelf(shelf)) {
            return BAD;
        }
        int refusal = shelves[shelf].refusalOfBytes();
        return refusal < 0 ? refusal : thought.firstUnlike(shelves[shelf]);
    }

    public int read(int shelf, int house, int what) {
        if (!isShelf(shelf) || !club.isHouse(house) || what < 0 || what > 3) {
            return BAD;
        }
        int refusal = shelves[shelf].refusalOfBytes();
        if (refusal < 0) {
            return refusal;
        }
        int fits = valuesThatFit(shelves[shelf], house, what < 2 ? CAKE : FEUD);
        if (what == 0 || what == 2) {
            return Integer.bitCount(fits);
        }
        return what == 1 ? firstBit(fits, 0, 1) : firstBit(fits, 9, -1);
    }

    private int valuesThatFit(Shelf row, int house, int what) {
        int before = club.get(what, house);
        int fits = 0;
        for (int v = 0; v <= 9; v++) {
            club.set(what, house, v);
            if (thought.firstUnlike(row) < 0) {
                fits |= 1 << v;
            }
        }
        club.set(what, house, before);
        return fits;
    }

    public int drawn(int seed, int n, int house) {
        if (n < 1 || n > 30 || house < -1 || house >= club.houses) {
            return BAD;
        }
        thought.draw = seed;
        int burnt = 0;
        for (int season = 0; season < n; season++) {
            int lost = thought.season();
            burnt += house < 0 ? Integer.bitCount(lost) : bit(lost, house);
        }
        return burnt;
    }

    // ---- in deed

    public int pass(int fires) {
        if (!club.areHouses(fires)) {
            return BAD;
        }
        if (club.now() >= LAST_DAY) {
            return STATE;
        }
        thought.begin();
        int visited = thought.spend(club.now());
        club.used = thought.used;
        club.dayPassed(visited, fires & club.standing);
        return visited;
    }

    public int build(int house) {
        if (!club.isHouse(house)) {
            return BAD;
        }
        if (bit(club.standing, house) == 1) {
            return STATE;
        }
        club.standing |= 1 << house;
        club.told[BUILT_LED]++;
        return 1;
    }

    public int led(int what) {
        if (what >= 0 && what < LED_SORTS) {
            return club.told[what];
        }
        if (what >= LED_BY_HOUSE && what - LED_BY_HOUSE < club.houses) {
            return club.been[what - LED_BY_HOUSE];
        }
        return BAD;
    }

    public int image() {
        kept.takeFrom(club);
        return club.now();
    }

    public int back() {
        if (!kept.taken) {
            return STATE;
        }
        kept.layOn(club);
        return club.now();
    }

    public int undo() {
        if (changes.done == 0) {
            return STATE;
        }
        changes.stepBack(club);
        return changes.done;
    }

    public int redo() {
        if (changes.done == changes.known) {
            return STATE;
        }
        changes.stepOn(club);
        return changes.known - changes.done;
    }

    // ---- acts, shelves

    public int body(int kind) {
        if (!Gentlemen.isKind(kind)) {
            return BAD;
        }
        return gentlemen.join(kind);
    }

    public int act(int body, int act, int x) {
        gentlemen.forgetTrace();
        if (!gentlemen.isBody(body) || act < 0 || act > Gentlemen.TELLS) {
            return 0;
        }
        return gentlemen.answer(body, act, x);
    }

    public int trace(int i) {
        return i >= 0 && i < gentlemen.traced() ? gentlemen.trace[i] : BAD;
    }

    public int keep(int shelf, int body) {
        if (!isShelf(shelf) || (body != -1 && !gentlemen.isBody(body))) {
            return BAD;
        }
        shelves[shelf].holdBody(body);
        return 1;
    }

    public int row(int shelf, int sort, int n) {
        if (!isShelf(shelf) || sort < Shelf.BYTES || sort > Shelf.BOOLEANS || n > Shelf.LONGEST) {
            return BAD;
        }
        if (n < 0) {
            return SIZE_BELOW_ZERO;
        }
        shelves[shelf].holdRow(sort, n);
        return 1;
    }

    public int put(int shelf, int i, long v) {
        if (!isShelf(shelf)) {
            return BAD;
        }
        Shelf row = shelves[shelf];
        int refusal = row.refusalOfPlace(i);
        if (refusal < 0) {
            return refusal;
        }
        row.elements[i] = Shelf.lowest(row.sort, v);
        return 1;
    }

    public long element(int shelf, int i) {
        if (!isShelf(shelf) || shelves[shelf].refusalOfPlace(i) < 0) {
            return NO_PART;
        }
        return shelves[shelf].elements[i];
    }

    public int shift(int shelf, int i, int other, int j, int n) {
        if (!isShelf(shelf) || !isShelf(other)) {
            return BAD;
        }
        Shelf from = shelves[shelf];
        Shelf to = shelves[other];
        if (from.isEmpty() || to.isEmpty()) {
            return NOTHING_THERE;
        }
        if (!from.holdsRow() || !to.holdsRow() || from.sort != to.sort) {
            return OTHER_KIND;
        }
        if (!from.hasPlaces(i, n) || !to.hasPlaces(j, n)) {
            return NO_PLACE;
        }
        System.arraycopy(from.elements, i, to.elements, j, n);
        return n;
    }

    public int taken(int shelf, int k) {
        if (!isShelf(shelf) || !Gentlemen.isKind(k)) {
            return BAD;
        }
        Shelf place = shelves[shelf];
        if (place.isEmpty()) {
            return NOTHING_THERE;
        }
        if (place.holdsRow() || !gentlemen.isBody(place.held)) {
            return OTHER_KIND;
        }
        int kind = gentlemen.kinds[place.held];
        return Gentlemen.isUnder(kind, k) ? kind : OTHER_KIND;
    }

    public int count(int what) {
        switch (what) {
            case 0:
                return club.houses;
            case 1:
                return club.cards;
            case 2:
                return text.fed;
            case 3:
                return changes.done;
            case 4:
                return gentlemen.size;
            case 5:
                return gentlemen.ran;
            default:
                return BAD;
        }
    }

    // ---- what several calls share

    private static boolean isShelf(int shelf) {
        return shelf >= 0 && shelf < SHELVES;
    }

    private static boolean isPart(int part) {
        return part == 0 || part == 1;
    }

    private static boolean isValue(int what, int v) {
        return what >= CELL && what <= NOW && v >= LEAST[what] && v <= MOST[what];
    }

    private static int bit(int bits, int i) {
        return bits >>> i & 1;
    }

    private static int firstBit(int bits, int from, int step) {
        for (int i = 0; i <= 9; i++) {
            if (bit(bits, from + i * step) == 1) {
                return from + i * step;
            }
        }
        return NOT;
    }

    private static long fraction(long above, long below, int part) {
        long a = above;
        long b = below;
        // Euclid needs fewer than 100 steps for any two longs.
        for (int i = 0; i < 100 && b != 0; i++) {
            long rest = a % b;
            a = b;
            b = rest;
        }
        if (a == 0) {
            return part;
        }
        return part == 0 ? above / a : below / a;
    }

    /** HOUSES, DAYS, CARDS, NOW, and what LED tells. */
    private static final class Club {
        // All numbers that mend() knows lie in one row, so that a change is undone the same way for each.
        private final int[] numbers = new int[(NOW + 1) * ROW_OF_NUMBERS];
        final int[] owner = new int[CARDS];
        final int[] been = new int[HOUSES];
        final int[] told = new int[LED_SORTS];
        int houses;
        int cards;
        int standing;
        int used;

        Club() {
            for (int day = 0; day <= LAST_DAY; day++) {
                numbers[DRY * ROW_OF_NUMBERS + day] = 5;
            }
        }

        /** Callers have asked isNumber(), or count up to houses, cards or LAST_DAY. */
        int get(int what, int number) {
            return numbers[what * ROW_OF_NUMBERS + number];
        }

        void set(int what, int number, int v) {
            numbers[what * ROW_OF_NUMBERS + number] = v;
        }

        int now() {
            return numbers[NOW * ROW_OF_NUMBERS];
        }

        boolean isHouse(int house) {
            return house >= 0 && house < houses;
        }

        boolean isCard(int card) {
            return card >= 0 && card < cards;
        }

        boolean isToCome(int day) {
            return day >= now() && day <= LAST_DAY;
        }

        boolean areHouses(int set) {
            return set >= 0 && set < 1 << houses;
        }

        boolean isNumber(int what, int number) {
            if (what < CELL || what > NOW || number < 0) {
                return false;
            }
            if (what == DRY) {
                return number <= LAST_DAY;
            }
            if (what == NOW) {
                return number == 0;
            }
            return number < (what == DAY ? cards : houses);
        }

        int addHouse(int cell) {
            if (houses >= HOUSES) {
                return FULL;
            }
            set(CELL, houses, cell);
            set(RISK, houses, 3);
            set(CAKE, houses, 5);
            set(FEUD, houses, 0);
            set(WOOD, houses, 3);
            standing |= 1 << houses;
            return houses++;
        }

        int addCard(int house, int day) {
            if (cards >= CARDS) {
                return FULL;
            }
            owner[cards] = house;
            set(DAY, cards, day);
            return cards++;
        }

        /** ODDS of twelve. */
        int fire(int house, int day) {
            return get(RISK, house) * get(DRY, day) / 9;
        }

        /** Whether a CARD is among those for a day, if these HOUSES stand and these CARDS are USED. */
        boolean lies(int card, int day, int upright, int gone) {
            int date = get(DAY, card);
            boolean open = date == day || (date == ANY_DAY && bit(gone, card) == 0);
            return open && bit(upright, owner[card]) == 1;
        }

        /** The HOUSES (bits) that have a CARD that may be ACCEPTED on a day. */
        int askedFor(int day) {
            int asked = 0;
            for (int card = 0; card < cards; card++) {
                if (lies(card, day, standing, used)) {
                    asked |= 1 << owner[card];
                }
            }
            return asked;
        }

        void dayPassed(int visited, int burning) {
            int saved = visited < 0 ? 0 : 1 << visited;
            if (visited >= 0) {
                been[visited]++;
                told[VISITS_LED]++;
                told[SAVED_LED] += bit(burning, visited);
            }
            int burnt = burning & ~saved;
            told[BURNT_LED] += Integer.bitCount(burnt);
            told[DAYS_LED]++;
            standing &= ~burnt;
            set(NOW, 0, now() + 1);
        }
    }

    /** THE TAPE and THE LAW: a text is checked byte by byte and turned into a program for a stack of ints. */
    private static final class Law {
        private static final int TAPE = 120, ROOM = 256, STACK = 128;
        private static final int MOST_OPEN = 6, MOST_DIGITS = 4, NO_FAULT = -1, NONE = -1;
        private static final int OR = 1, AND = 2, COMPARE = 3, ADD = 4, TIMES = 5;
        // - ahead of an O; no text has this sign.
        private static final int NEGATE = '~';
        // Below all signs.
        private static final int FIRST_NAME = -1000, NAMES = 6;

        private final int[] tape = new int[TAPE];
        // A number stands for itself, the i-th NAME as FIRST_NAME - i, any other step as its sign, negative;
        // behind ? stands where the next LINE is.
        private final int[] program = new int[ROOM];
        private final int[] draft = new int[ROOM];
        private final int[] pending = new int[STACK];
        private final int[] values = new int[STACK];
        private final int[] named = new int[NAMES];
        int fed;
        private int steps;
        private int drafted;
        private int waiting;
        private int open;
        private int brackets;
        private int digits;
        private int numberAt;
        private int jumpAt;
        private boolean operandDue;

        boolean takeByte(int letter) {
            if (fed >= TAPE) {
                return false;
            }
            tape[fed] = letter;
            fed++;
            return true;
        }

        /** THE TAPE becomes THE LAW, or its FAULT is told and the law stays; THE TAPE is empty in both cases. */
        int takeTape() {
            int length = fed;
            fed = 0;
            startDraft();
            for (int i = 0; i < length; i++) {
                if (!goesOn(tape[i])) {
                    return i;
                }
            }
            if (operandDue || brackets > 0) {
                return length;
            }
            endLine();
            System.arraycopy(draft, 0, program, 0, ROOM);
            steps = drafted;
            return NO_FAULT;
        }

        private void startDraft() {
            drafted = 0;
            waiting = 0;
            open = 0;
            brackets = 0;
            digits = 0;
            jumpAt = NONE;
            operandDue = true;
        }

        private boolean goesOn(int sign) {
            if (operandDue) {
                return operandGoesOn(sign);
            }
            if (isDigit(sign)) {
                return digitGoesOn(sign);
            }
            digits = 0;
            switch (sign) {
                case ')':
                    return closeBracket();
                case '?':
                    return condition();
                case ';':
                    return nextLine();
                default:
                    return operatorGoesOn(sign);
            }
        }

        private boolean operandGoesOn(int sign) {
            if (sign == '(' || sign == '!' || sign == '-') {
                return opens(sign == '-' ? NEGATE : sign);
            }
            if (isDigit(sign)) {
                digits = 1;
                numberAt = drafted;
                emit(sign - '0');
            } else if (nameOf(sign) != NONE) {
                emit(FIRST_NAME - nameOf(sign));
            } else {
                return false;
            }
            endOperand();
            return true;
        }

        private boolean opens(int sign) {
            if (open >= MOST_OPEN) {
                return false;
            }
            open++;
            if (sign == '(') {
                brackets++;
            }
            push(sign);
            return true;
        }

        private boolean digitGoesOn(int sign) {
            if (digits == 0 || digits >= MOST_DIGITS) {
                return false;
            }
            digits++;
            draft[numberAt] = draft[numberAt] * 10 + (sign - '0');
            return true;
        }

        private boolean closeBracket() {
            if (brackets == 0) {
                return false;
            }
            settle(OR);
            waiting--;
            brackets--;
            open--;
            endOperand();
            return true;
        }

        private boolean condition() {
            if (brackets > 0 || jumpAt != NONE) {
                return false;
            }
            settle(OR);
            emit(-'?');
            jumpAt = drafted;
            emit(0);
            operandDue = true;
            return true;
        }

        private boolean nextLine() {
            if (brackets > 0) {
                return false;
            }
            endLine();
            operandDue = true;
            return true;
        }

        private void endLine() {
            settle(OR);
            emit(-';');
            if (jumpAt != NONE) {
                draft[jumpAt] = drafted;
            }
            jumpAt = NONE;
        }

        private boolean operatorGoesOn(int sign) {
            int rank = rank(sign);
            if (rank == 0) {
                return false;
            }
            // A second comparison in one B has no meaning, so the first is left where it can be seen.
            settle(rank == COMPARE ? ADD : rank);
            if (rank == COMPARE && waiting > 0 && rank(pending[waiting - 1]) == COMPARE) {
                return false;
            }
            push(sign);
            operandDue = true;
            return true;
        }

        /** Signs ! and - ahead of an O bind nothing but it, so they are closed as soon as it is whole. */
        private void endOperand() {
            operandDue = false;
            while (waiting > 0 && (pending[waiting - 1] == '!' || pending[waiting - 1] == NEGATE)) {
                waiting--;
                open--;
                emit(-pending[waiting]);
            }
        }

        private void settle(int rank) {
            while (waiting > 0 && rank(pending[waiting - 1]) >= rank) {
                waiting--;
                emit(-pending[waiting]);
            }
        }

        private void push(int sign) {
            // 6 open ones with 5 ranks each fill far less than the stack.
            if (waiting < STACK) {
                pending[waiting] = sign;
                waiting++;
            }
        }

        private void emit(int step) {
            // A byte gives two steps at most.
            if (drafted < ROOM) {
                draft[drafted] = step;
                drafted++;
            }
        }

        private static boolean isDigit(int sign) {
            return sign >= '0' && sign <= '9';
        }

        /** The place of a NAME among what liking() looks up; NONE. */
        private static int nameOf(int sign) {
            switch (sign) {
                case 'c':
                    return 0;
                case 'f':
                    return 1;
                case 'd':
                    return 2;
                case 'r':
                    return 3;
                case 'h':
                    return 4;
                case 'n':
                    return 5;
                default:
                    return NONE;
            }
        }

        private static int rank(int sign) {
            switch (sign) {
                case '|':
                    return OR;
                case '&':
                    return AND;
                case '<':
                case '=':
                case '>':
                    return COMPARE;
                case '+':
                case '-':
                    return ADD;
                case '*':
                case '/':
                case '%':
                    return TIMES;
                default:
                    return 0;
            }
        }

        /** How much the club LIKES a CARD of a HOUSE for a day, if it has been there so often. */
        int liking(Club club, int house, int day, int been) {
            int cake = club.get(CAKE, house);
            int feud = club.get(FEUD, house);
            if (steps == 0) {
                return held(cake - feud - been);
            }
            named[0] = cake;
            named[1] = feud;
            named[2] = club.get(DRY, day);
            named[3] = club.get(RISK, house);
            named[4] = house;
            named[5] = been;
            return held(worked());
        }

        private static int held(int worth) {
            return Math.max(-99, Math.min(99, worth));
        }

        /** takeTape() lets no program pass whose steps lack values; the looks at top only say so. */
        private int worked() {
            int top = 0;
            // Jumps go on only, so i grows with each round.
            for (int i = 0; i < steps; i++) {
                int step = program[i];
                if (step == -';') {
                    return values[0];
                }
                if (step == -'?' && i + 1 < steps) {
                    top = 0;
                    i = values[0] == 0 ? Math.max(i, program[i + 1] - 1) : i + 1;
                } else if (isPlain(step) && top < STACK) {
                    values[top] = step >= 0 ? step : named[FIRST_NAME - step];
                    top++;
                } else if (step == -'!' && top > 0) {
                    values[top - 1] = values[top - 1] == 0 ? 1 : 0;
                } else if (step == -NEGATE && top > 0) {
                    values[top - 1] = -values[top - 1];
                } else if (top > 1) {
                    top--;
                    values[top - 1] = joined(-step, values[top - 1], values[top]);
                }
            }
            return 0;
        }

        private static boolean isPlain(int step) {
            return step >= 0 || (step <= FIRST_NAME && step > FIRST_NAME - NAMES);
        }

        private static int joined(int sign, int a, int b) {
            switch (sign) {
                case '|':
                    return a != 0 || b != 0 ? 1 : 0;
                case '&':
                    return a != 0 && b != 0 ? 1 : 0;
                case '<':
                    return a < b ? 1 : 0;
                case '=':
                    return a == b ? 1 : 0;
                case '>':
                    return a > b ? 1 : 0;
                case '+':
                    return a + b;
                case '-':
                    return a - b;
                case '*':
                    return a * b;
                case '/':
                    return b == 0 ? 0 : a / b;
                default:
                    return b == 0 ? 0 : a % b;
            }
        }
    }

    /** Days as the club would spend them from NOW on; nothing of it is done in deed. */
    private static final class Thought {
        private final Club club;
        private final Law law;
        private final int[] liked = new int[HOUSES];
        final int[] been = new int[HOUSES];
        final long[] spared = new long[HOUSES];
        long whole;
        int used;
        int draw;
        private int standing;

        Thought(Club club, Law law) {
            this.club = club;
            this.law = law;
        }

        void begin() {
            System.arraycopy(club.been, 0, been, 0, HOUSES);
            standing = club.standing;
            used = club.used;
        }

        int liking(int house, int day) {
            return law.liking(club, house, day, been[house]);
        }

        /** The CARD that is ACCEPTED; NOT. */
        int choice(int day) {
            int best = NOT;
            int most = 0;
            int known = 0;
            for (int card = 0; card < club.cards; card++) {
                if (!club.lies(card, day, standing, used)) {
                    continue;
                }
                int house = club.owner[card];
                // All CARDS of one HOUSE are liked alike, so the law is asked once for each.
                if (bit(known, house) == 0) {
                    liked[house] = law.liking(club, house, day, been[house]);
                    known |= 1 << house;
                }
                if (liked[house] > most) {
                    most = liked[house];
                    best = card;
                }
            }
            return best;
        }

        /** The HOUSE that is VISITED, which counts from then on; NOT. */
        int spend(int day) {
            int card = choice(day);
            if (card < 0) {
                return NOT;
            }
            if (club.get(DAY, card) == ANY_DAY) {
                used |= 1 << card;
            }
            been[club.owner[card]]++;
            return club.owner[card];
        }

        void spendUntil(int day) {
            for (int d = club.now(); d < day; d++) {
                spend(d);
            }
        }

        int visitedOn(int day) {
            begin();
            int visited = NOT;
            for (int d = club.now(); d <= day; d++) {
                visited = spend(d);
            }
            return visited;
        }

        /** Whether a HOUSE is VISITED on a day if it has one more CARD for it, the last by number. */
        boolean wins(int house, int day) {
            int card = choice(day);
            int rival = card < 0 ? NOT : club.owner[card];
            if (rival == house) {
                return true;
            }
            return liking(house, day) > (rival < 0 ? 0 : liking(rival, day));
        }

        /** spared by whole: how likely each HOUSE that stands still does behind t days. */
        void weighDays(int t) {
            whole = 1;
            for (int house = 0; house < HOUSES; house++) {
                spared[house] = 1;
            }
            begin();
            int days = Math.min(t, LAST_DAY + 1 - club.now());
            for (int i = 0; i < days; i++) {
                int day = club.now() + i;
                int visited = spend(day);
                whole *= TWELVE;
                for (int house = 0; house < club.houses; house++) {
                    spared[house] *= house == visited ? TWELVE : TWELVE - club.fire(house, day);
                }
            }
        }

        /** The first place of a ROW where another one was VISITED than by THE LAW; NOT. */
        int firstUnlike(Shelf row) {
            begin();
            for (int i = 0; i < row.length; i++) {
                int day = club.now() + i;
                if (day > LAST_DAY) {
                    return i;
                }
                int visited = spend(day);
                if (row.elements[i] != (visited < 0 ? NO_HOUSE_IN_ROW : visited)) {
                    return i;
                }
            }
            return NOT;
        }

        /** The HOUSES (bits) that are BURNT in one season by draws; draw goes on from season to season. */
        int season() {
            begin();
            for (int day = club.now(); day <= LAST_DAY; day++) {
                int visited = spend(day);
                int burning = drawFires(day);
                standing &= ~(visited < 0 ? burning : burning & ~(1 << visited));
            }
            return club.standing & ~standing;
        }

        private int drawFires(int day) {
            int burning = 0;
            for (int house = 0; house < club.houses; house++) {
                if (bit(standing, house) == 1) {
                    draw = draw * 1103515245 + 12345;
                    if ((draw >>> 8) % TWELVE < club.fire(house, day)) {
                        burning |= 1 << house;
                    }
                }
            }
            return burning;
        }
    }

    /** Whom the club should accept so that least burns. */
    private static final class Planner {
        private static final int LONGEST = 4;

        private final Club club;
        // spared[k * HOUSES + h]: as Thought has it, behind k days.
        private final long[] spared = new long[(LONGEST + 1) * HOUSES];
        private final int[] chosen = new int[LONGEST];
        final int[] best = new int[LONGEST];
        long least;
        long whole;
        int days;
        private int used;

        Planner(Club club) {
            this.club = club;
        }

        void work(int t) {
            days = Math.min(t, LAST_DAY + 1 - club.now());
            whole = 1;
            for (int k = 0; k < days; k++) {
                whole *= TWELVE;
            }
            for (int house = 0; house < HOUSES; house++) {
                spared[house] = 1;
            }
            used = club.used;
            least = HOUSES * whole + 1;
            search(0);
        }

        /** Goes through the choices in the order in which like ones are preferred: none, then by numbers. */
        private void search(int k) {
            if (k >= days) {
                weigh();
                return;
            }
            choose(k, NOT);
            for (int card = 0; card < club.cards; card++) {
                if (isOpen(card, club.now() + k) && !hasTwin(card, club.now() + k)) {
                    choose(k, card);
                }
            }
        }

        private void choose(int k, int card) {
            int day = club.now() + k;
            int visited = card < 0 ? NOT : club.owner[card];
            for (int house = 0; house < club.houses; house++) {
                long before = spared[k * HOUSES + house];
                spared[(k + 1) * HOUSES + house] =
                        before * (house == visited ? TWELVE : TWELVE - club.fire(house, day));
            }
            int usedBefore = used;
            if (card >= 0 && club.get(DAY, card) == ANY_DAY) {
                used |= 1 << card;
            }
            chosen[k] = card;
            search(k + 1);
            used = usedBefore;
        }

        private void weigh() {
            long burnt = 0;
            for (int house = 0; house < club.houses; house++) {
                if (bit(club.standing, house) == 1) {
                    burnt += whole - spared[days * HOUSES + house];
                }
            }
            if (burnt < least) {
                least = burnt;
                System.arraycopy(chosen, 0, best, 0, days);
            }
        }

        private boolean isOpen(int card, int day) {
            return bit(used, card) == 0 && club.lies(card, day, club.standing, used);
        }

        /** An open CARD ahead of it of the same HOUSE and date does all that this one does, and is preferred. */
        private boolean hasTwin(int card, int day) {
            for (int other = 0; other < card; other++) {
                if (club.owner[other] == club.owner[card] && club.get(DAY, other) == club.get(DAY, card)
                        && isOpen(other, day)) {
                    return true;
                }
            }
            return false;
        }
    }

    /** The way of one engine in an evening. */
    private static final class Engine {
        private final Club club;
        private final int[] way = new int[HOUSES];
        final int[] best = new int[HOUSES];
        int size;
        int fewest;
        int sum;

        Engine(Club club) {
            this.club = club;
        }

        void work(int set) {
            size = Integer.bitCount(set);
            fewest = HOUSES + 1;
            sum = 0;
            goOn(0, set, 0, 0, 0, 0);
        }

        /** Ways are tried by numbers, so of like ones the first stays. */
        private void goOn(int k, int left, int cell, int hour, int lost, int hours) {
            if (lost >= fewest) {
                return;
            }
            if (left == 0 || k >= HOUSES) {
                fewest = lost;
                sum = hours;
                System.arraycopy(way, 0, best, 0, HOUSES);
                return;
            }
            for (int house = 0; house < HOUSES; house++) {
                if (bit(left, house) == 1) {
                    int there = club.get(CELL, house);
                    int comes = hour + drive(cell, there);
                    int late = comes > club.get(WOOD, house) ? 1 : 0;
                    way[k] = house;
                    goOn(k + 1, left & ~(1 << house), there, comes + 1, lost + late, hours + comes);
                }
            }
        }

        private static int drive(int from, int to) {
            int cells = Math.abs(from % 12 - to % 12) + Math.abs(from / 12 - to / 12);
            return (cells + 3) / 4;
        }
    }

    /** CHANGES, the oldest first: those below done may be UNDONE, those from there on DONE AGAIN. */
    private static final class Changes {
        private static final int MOST_KEPT = 40, WIDTH = 4;

        private final int[] kept = new int[MOST_KEPT * WIDTH];
        int done;
        int known;

        void add(int what, int number, int before, int after) {
            if (done >= MOST_KEPT) {
                System.arraycopy(kept, WIDTH, kept, 0, (MOST_KEPT - 1) * WIDTH);
                done = MOST_KEPT - 1;
            }
            int at = done * WIDTH;
            kept[at] = what;
            kept[at + 1] = number;
            kept[at + 2] = before;
            kept[at + 3] = after;
            done++;
            known = done;
        }

        void stepBack(Club club) {
            done--;
            int at = done * WIDTH;
            club.set(kept[at], kept[at + 1], kept[at + 2]);
        }

        void stepOn(Club club) {
            int at = done * WIDTH;
            club.set(kept[at], kept[at + 1], kept[at + 3]);
            done++;
        }
    }

    /** AN IMAGE: what deeds change. */
    private static final class Image {
        private final int[] been = new int[HOUSES];
        private final int[] told = new int[LED_SORTS];
        boolean taken;
        private int now;
        private int houses;
        private int cards;
        private int standing;
        private int used;

        void takeFrom(Club club) {
            System.arraycopy(club.been, 0, been, 0, HOUSES);
            System.arraycopy(club.told, 0, told, 0, LED_SORTS);
            now = club.now();
            houses = club.houses;
            cards = club.cards;
            standing = club.standing;
            used = club.used;
            taken = true;
        }

        void layOn(Club club) {
            // HOUSES that have come since were never VISITED in the image, so its zeros are right for them.
            System.arraycopy(been, 0, club.been, 0, HOUSES);
            System.arraycopy(told, 0, club.told, 0, LED_SORTS);
            int oldHouses = (1 << houses) - 1;
            int oldCards = (1 << cards) - 1;
            club.standing = (standing & oldHouses) | (club.standing & ~oldHouses);
            club.used = (used & oldCards) | (club.used & ~oldCards);
            club.set(NOW, 0, now);
        }
    }

    /** BODIES, their acts by KINDS, and THE TRACE. */
    private static final class Gentlemen {
        static final int COMES = 0, DANCES = 1, REGRETS = 2, TELLS = 3;
        private static final int ACTS = 4, KINDS = 8, MOST_BODIES = 50, MOST_TRACED = 24, DEEPEST = 40;
        private static final int[] ABOVE = {-1, 0, 0, 2, 1, 3, 0, 6};
        // By KIND and ACT the body of that KIND's own; 0: it has none.
        private static final int[] OWN = {
            1, 10, 11, 2,
            20, 0, 0, 0,
            0, 30, 0, 0,
            0, 41, 40, 0,
            0, 0, 0, 50,
            0, 0, 60, 61,
            70, 0, 0, 0,
            81, 80, 0, 0,
        };

        final int[] kinds = new int[MOST_BODIES];
        final int[] trace = new int[MOST_TRACED];
        int size;
        int ran;

        static boolean isKind(int kind) {
            return kind >= 0 && kind < KINDS;
        }

        static boolean isUnder(int kind, int top) {
            int at = kind;
            for (int i = 0; i < KINDS && at >= 0; i++) {
                if (at == top) {
                    return true;
                }
                at = ABOVE[at];
            }
            return false;
        }

        boolean isBody(int number) {
            return number >= 0 && number < size;
        }

        int join(int kind) {
            if (size >= MOST_BODIES) {
                return FULL;
            }
            kinds[size] = kind;
            return size++;
        }

        void forgetTrace() {
            ran = 0;
        }

        int traced() {
            return Math.min(ran, MOST_TRACED);
        }

        int answer(int n, int act, int x) {
            return does(n, act, x, 0);
        }

        /** comes(..) and so on: from its own KIND on. */
        private int does(int n, int act, int x, int depth) {
            return runs(n, kinds[n], act, x, depth + 1);
        }

        /** The next body from a KIND on upward; super is this from the KIND above the body's. */
        private int runs(int n, int kind, int act, int x, int depth) {
            int at = kind;
            for (int i = 0; i < KINDS && at > 0 && OWN[at * ACTS + act] == 0; i++) {
                at = ABOVE[at];
            }
            if (at < 0 || depth > DEEPEST) {
                return 0;
            }
            int own = OWN[at * ACTS + act];
            if (ran < MOST_TRACED) {
                trace[ran] = own;
            }
            ran++;
            return at == 0 ? asMember(n, act, x, depth) : asOther(n, own, ABOVE[at], x, depth);
        }

        private int asMember(int n, int act, int x, int depth) {
            switch (act) {
                case COMES:
                    return x + n;
                case DANCES:
                    return does(n, COMES, x, depth) * 2;
                case REGRETS:
                    return x ^ n;
                default:
                    int danced = does(n, DANCES, x, depth);
                    return danced - does(n, REGRETS, 1, depth);
            }
        }

        private int asOther(int n, int own, int above, int x, int depth) {
            int d = depth + 1;
            switch (own) {
                case 20:
                    return runs(n, above, COMES, x, d) + 3;
                case 30:
                    return -runs(n, above, DANCES, x, d);
                case 40:
                    return runs(n, above, REGRETS, x, d) * 3;
                case 41:
                    return runs(n, above, DANCES, x + 1, d);
                case 50:
                    return runs(n, above, TELLS, x, d) ^ 5;
                case 60:
                    int regretted = runs(n, above, REGRETS, x, d);
                    return regretted - does(n, COMES, 2, d);
                case 61:
                    return runs(n, above, TELLS, x, d) + 1;
                case 70:
                    return runs(n, above, COMES, x, d) * 2;
                case 80:
                    int danced = runs(n, above, DANCES, x, d);
                    return danced + does(n, REGRETS, 2, d);
                default:
                    return runs(n, above, COMES, x, d) - 1;
            }
        }
    }

    /** A SHELF; its elements are made once and used again for each ROW. */
    private static final class Shelf {
        static final int BYTES = 0, SHORTS = 1, INTS = 2, LONGS = 3, BOOLEANS = 4, LONGEST = 60;
        private static final int NO_ROW = -1, NO_BODY = -1;

        final long[] elements = new long[LONGEST];
        int length;
        int sort = NO_ROW;
        int held = NO_BODY;

        boolean isEmpty() {
            return sort == NO_ROW && held == NO_BODY;
        }

        boolean holdsRow() {
            return sort != NO_ROW;
        }

        boolean holdsBytes() {
            return sort == BYTES;
        }

        void holdBody(int number) {
            held = number;
            sort = NO_ROW;
            length = 0;
        }

        void holdRow(int newSort, int n) {
            held = NO_BODY;
            sort = newSort;
            length = n;
            for (int i = 0; i < n; i++) {
                elements[i] = 0;
            }
        }

        int refusalOfBytes() {
            if (isEmpty()) {
                return NOTHING_THERE;
            }
            return holdsBytes() ? 0 : OTHER_KIND;
        }

        int refusalOfPlace(int i) {
            if (isEmpty()) {
                return NOTHING_THERE;
            }
            if (!holdsRow()) {
                return OTHER_KIND;
            }
            return i >= 0 && i < length ? 0 : NO_PLACE;
        }

        /** Told by differences, so that no sum can wrap. */
        boolean hasPlaces(int i, int n) {
            return n >= 0 && i >= 0 && n <= length && i <= length - n;
        }

        static long lowest(int sort, long v) {
            switch (sort) {
                case BYTES:
                    return (byte) v;
                case SHORTS:
                    return (short) v;
                case INTS:
                    return (int) v;
                case LONGS:
                    return v;
                default:
                    return v != 0 ? 1 : 0;
            }
        }
    }
}
