/** A town in which years of age change hands: what README.md and the document of the project tell. */
public final class YearHands {
    public static final int NONE = -1;
    public static final int GAP = -1000000;

    private static final int MOST_PEOPLE = 8;
    private static final int MOST_FRIENDS = 20;
    private static final int MOST_RIGHTS = 6;
    private static final int MOST_LOANS = 30;
    private static final int MOST_FACES = 30;
    private static final int MOST_ACTS = 40;
    private static final int MOST_BYTES = 1600;
    private static final int MOST_UNITS = 60;
    private static final int MOST_UNITS_HERE = 30;
    private static final int MOST_AGE = 150;
    private static final int MOST_COIN = 999;
    private static final int MOST_DRAW = 999;
    private static final int MOST_GIFT = 99;
    private static final int MOST_PRICE = 99;
    private static final int MOST_YEAR = 1000;
    private static final int MOST_LATER = 1000;
    private static final int MOST_TIME = 100000;
    private static final int FAMILIES = 4;
    private static final int BOXES = 3;
    /** Dearer than all years of a TOWN by the dearest ROAD. */
    private static final int FAR = 100000000;

    private final byte[] tape = new byte[MOST_BYTES];
    private int fed = 0;
    private final Town town = new Town();
    private final Reader reader = new Reader();
    private final State now = new State();
    private final History acts = new History();
    private final State[] boxes = new State[BOXES];
    private int filledBoxes = 0;
    private final int[] targetAges = new int[MOST_PEOPLE];
    private int targeted = 0;
    private final Roads roads = new Roads();
    private final Debts debts = new Debts();
    private final Safety safety = new Safety();
    private final Faces faces = new Faces();
    private final Gifts gifts = new Gifts();
    private final int[] lying = new int[MOST_PEOPLE];
    private int lyingCount = 0;

    public YearHands() {
        for (int i = 0; i < boxes.length; i++) {
            boxes[i] = new State();
        }
    }

    // ---- the TAPE and the TOWN

    public int feed(int a, int b, int c, int d, int e) {
        if (fed + 20 > tape.length) {
            return NONE;
        }
        putFour(a);
        putFour(b);
        putFour(c);
        putFour(d);
        putFour(e);
        return fed;
    }

    private void putFour(int number) {
        for (int shift = 24; shift >= 0; shift -= 8) {
            if (fed >= 0 && fed < tape.length) {
                tape[fed] = (byte) (number >> shift);
                fed++;
            }
        }
    }

    public int end(int n) {
        if (n < 0 || n > fed) {
            return NONE;
        }
        fed = n;
        return n;
    }

    public int town() {
        boolean whole = reader.read(tape, fed);
        fed = 0;
        if (!whole) {
            return NONE;
        }
        town.become(reader.draft);
        now.begin(town);
        acts.begin(now);
        filledBoxes = 0;
        targeted = 0;
        faces.clear();
        lyingCount = 0;
        return town.people;
    }

    public int fault(int what) {
        switch (what) {
            case 0: return reader.fault;
            case 1: return reader.faultPlace;
            default: return NONE;
        }
    }

    // ---- what is

    public int person(int person, int what) {
        if (!isPerson(person)) {
            return NONE;
        }
        switch (what) {
            case 0: return at(now.age, person);
            case 1: return at(now.coin, person);
            case 2: return isAlive(person) ? 1 : 0;
            case 3: return at(town.need, person);
            case 4: return at(town.family, person);
            default: return NONE;
        }
    }

    public int has(int person, int right) {
        if (!isPerson(person) || !isRight(right)) {
            return NONE;
        }
        return hasNow(person, right) ? 1 : 0;
    }

    public int odds(int age) {
        return isAge(age) ? oddsAt(age) : NONE;
    }

    public int sum(int family) {
        if (family != NONE && !isFamily(family)) {
            return GAP;
        }
        int years = 0;
        for (int p = 0; p < town.people; p++) {
            if (isAlive(p) && (family == NONE || at(town.family, p) == family)) {
                years += at(now.age, p);
            }
        }
        return years;
    }

    private boolean isPerson(int person) {
        return person >= 0 && person < town.people;
    }

    private boolean isRight(int right) {
        return right >= 0 && right < town.rights;
    }

    private boolean isAge(int age) {
        return age >= town.least && age <= town.most;
    }

    private static boolean isFamily(int family) {
        return family >= 0 && family < FAMILIES;
    }

    private static boolean isPrice(int price) {
        return price >= 0 && price <= MOST_PRICE;
    }

    private boolean isAlive(int person) {
        return isPerson(person) && isIn(now.alive, person);
    }

    private boolean hasNow(int person, int right) {
        return wouldHave(person, right, at(now.age, person));
    }

    /** Whether one would HAVE a RIGHT at an age, with the coin that he has now. */
    private boolean wouldHave(int person, int right, int age) {
        if (!isAlive(person) || !isRight(right)) {
            return false;
        }
        int start = at(town.rightStart, right);
        return town.formulas.value(start, age, at(now.coin, person), at(town.family, person), now.year) != 0;
    }

    private int oddsAt(int age) {
        int raw = town.formulas.value(town.oddsStart, age, 0, 0, now.year);
        return Math.max(0, Math.min(100, raw));
    }

    // ---- ACTS

    public int give(int from, int to, int n) {
        int friends = friendsFor(from, to, n);
        if (friends == NONE) {
            return NONE;
        }
        int cost = n * at(town.price, friends);
        if (at(now.coin, to) < cost) {
            return NONE;
        }
        now.moveYears(from, to, n);
        now.pay(to, from, cost);
        acts.add(now);
        return cost;
    }

    public int lend(int from, int to, int n, int till) {
        boolean soon = till > now.year && till <= MOST_YEAR;
        if (!soon || now.loans >= MOST_LOANS || friendsFor(from, to, n) == NONE) {
            return NONE;
        }
        now.moveYears(from, to, n);
        int loan = now.addLoan(from, to, n, till);
        acts.add(now);
        return loan;
    }

    /** The number of the FRIENDS by which n years can go from one to another one now, or NONE. */
    private int friendsFor(int from, int to, int n) {
        if (n < 1 || n > MOST_GIFT || !isAlive(from) || !isAlive(to)) {
            return NONE;
        }
        if (!now.canMove(from, to, n, town.least, town.most)) {
            return NONE;
        }
        return town.friendsOf(from, to);
    }

    public int year() {
        if (now.year >= MOST_YEAR) {
            return NONE;
        }
        now.year++;
        now.growOlder(town.most);
        now.bringBack(town.least, town.most);
        int dead = drawDeaths();
        acts.add(now);
        return dead;
    }

    private int drawDeaths() {
        int dead = 0;
        for (int p = 0; p < town.people; p++) {
            if (isAlive(p)) {
                now.seed = (now.seed * 137 + 71) % 1000;
                if (now.seed / 10 < oddsAt(at(now.age, p))) {
                    now.alive &= ~(1 << p);
                    dead++;
                }
            }
        }
        return dead;
    }

    public boolean undo() {
        return acts.goBack(now);
    }

    public boolean redo() {
        return acts.goOn(now);
    }

    public int loan(int loan, int what) {
        if (loan < 0 || loan >= now.loans) {
            return NONE;
        }
        switch (what) {
            case 0: return at(now.lender, loan);
            case 1: return at(now.holder, loan);
            case 2: return at(now.lent, loan);
            case 3: return at(now.till, loan);
            case 4: return isIn(now.over, loan) ? 1 : 0;
            default: return NONE;
        }
    }

    // ---- TARGETS and ROADS

    public int target(int person, int age) {
        if (!isPerson(person) || !isAge(age)) {
            return NONE;
        }
        put(targetAges, person, age);
        targeted |= 1 << person;
        return Integer.bitCount(targeted);
    }

    public int hush() {
        int targets = Integer.bitCount(targeted);
        targeted = 0;
        return targets;
    }

    public int cheapest() {
        for (int p = 0; p < MOST_PEOPLE; p++) {
            boolean counts = isAlive(p) && isIn(targeted, p);
            put(roads.spare, p, counts ? at(now.age, p) - at(targetAges, p) : 0);
        }
        return roads.settle(town, now.alive);
    }

    public int barred() {
        int barred = 0;
        roads.measure(town, now.alive);
        for (int p = 0; p < town.people; p++) {
            if (isAlive(p) && isIn(targeted, p)) {
                roads.priceAges(town, now, p);
                if (at(roads.priceOfAge, at(targetAges, p)) >= FAR) {
                    barred |= 1 << p;
                }
            }
        }
        return barred;
    }

    public int reach(int person, int right, int what) {
        if (!isAlive(person) || !isRight(right) || what < 0 || what > 1) {
            return NONE;
        }
        roads.measure(town, now.alive);
        roads.priceAges(town, now, person);
        int best = FAR;
        int bestAge = NONE;
        for (int age = town.least; age <= town.most; age++) {
            int price = at(roads.priceOfAge, age);
            if (price < best && wouldHave(person, right, age)) {
                best = price;
                bestAge = age;
            }
        }
        if (bestAge == NONE) {
            return NONE;
        }
        return what == 0 ? best : bestAge;
    }

    // ---- LOANS netted

    public int net(int person) {
        if (!isPerson(person)) {
            return GAP;
        }
        debts.gather(now);
        return at(debts.nets, person);
    }

    public int payments() {
        debts.gather(now);
        return debts.fewestPayments();
    }

    public int ring() {
        return debts.ringOf(now);
    }

    // ---- the MARKET

    public int market(int price, int tax) {
        if (!isPrice(price) || !isPrice(tax)) {
            return GAP;
        }
        return askedOver(price, tax, NONE);
    }

    public int rests(int tax, int what) {
        if (!isPrice(tax) || what < 0 || what > 1) {
            return GAP;
        }
        int price = restingPrice(tax, NONE);
        return what == 0 ? price : askedOver(price, tax, NONE);
    }

    public int corner(int person, int tax) {
        if (!isAlive(person) || !isPrice(tax)) {
            return GAP;
        }
        return restingPrice(tax, NONE) - restingPrice(tax, person);
    }

    /** What is asked less what is offered, without one (NONE: with all). */
    private int askedOver(int price, int tax, int without) {
        int over = 0;
        for (int p = 0; p < town.people; p++) {
            if (isAlive(p) && p != without) {
                int lack = at(town.need, p) - at(now.age, p);
                int each = price + tax;
                if (lack > 0 && each > 0) {
                    lack = Math.min(lack, at(now.coin, p) / each);
                }
                over += lack;
            }
        }
        return over;
    }

    private int restingPrice(int tax, int without) {
        int best = 0;
        int bestOff = Math.abs(askedOver(0, tax, without));
        for (int price = 1; price <= MOST_PRICE; price++) {
            int off = Math.abs(askedOver(price, tax, without));
            if (off < bestOff) {
                best = price;
                bestOff = off;
            }
        }
        return best;
    }

    // ---- ODDS

    public int safest() {
        for (int age = town.least; age <= town.most; age++) {
            put(safety.odds, age, oddsAt(age));
        }
        int together = safety.spread(town, now);
        lyingCount = 0;
        for (int p = 0; p < town.people; p++) {
            lay(isAlive(p) ? at(safety.ages, p) : NONE);
        }
        return together;
    }

    public boolean bends() {
        for (int age = town.least + 1; age < town.most; age++) {
            if (2 * oddsAt(age) > oddsAt(age - 1) + oddsAt(age + 1)) {
                return false;
            }
        }
        return true;
    }

    // ---- RIGHTS used twice, FAIR shares, ALL given

    public int twice(int right) {
        lyingCount = 0;
        if (!isRight(right)) {
            return NONE;
        }
        int found = 0;
        for (int f = 0; f < town.friends; f++) {
            int from = at(town.from, f);
            int to = at(town.to, f);
            int most = Math.min(MOST_GIFT, at(now.age, from) - town.least);
            int years = hasNow(from, right) ? fewestToHave(to, right, most) : 0;
            if (years > 0) {
                if (found == 0) {
                    lay(from);
                    lay(to);
                    lay(years);
                }
                found++;
            }
        }
        return found;
    }

    /** The fewest years, up to most, by which one who has not a RIGHT would HAVE it; 0 if there are none. */
    private int fewestToHave(int person, int right, int most) {
        if (!isAlive(person) || hasNow(person, right)) {
            return 0;
        }
        int age = at(now.age, person);
        for (int years = 1; years <= most && age + years <= town.most; years++) {
            if (wouldHave(person, right, age + years)) {
                return years;
            }
        }
        return 0;
    }

    public int fair(int family) {
        lyingCount = 0;
        if (!isFamily(family)) {
            return NONE;
        }
        int members = familyAlive(family);
        int count = Integer.bitCount(members);
        if (count == 0) {
            return 0;
        }
        int years = sum(family);
        int moved = 0;
        for (int p = 0; p < town.people; p++) {
            if (isIn(members, p)) {
                int share = years / count + (olderThan(p, members) < years % count ? 1 : 0);
                lay(share);
                moved += Math.max(0, share - at(now.age, p));
            }
        }
        return moved;
    }

    private int familyAlive(int family) {
        int members = 0;
        for (int p = 0; p < town.people; p++) {
            if (isAlive(p) && at(town.family, p) == family) {
                members |= 1 << p;
            }
        }
        return members;
    }

    /** How many members stand ahead of one: the older ones, and those as old of a less number. */
    private int olderThan(int person, int members) {
        int ahead = 0;
        for (int p = 0; p < town.people; p++) {
            int more = at(now.age, p) - at(now.age, person);
            if (isIn(members, p) && (more > 0 || more == 0 && p < person)) {
                ahead++;
            }
        }
        return ahead;
    }

    public int all(int person, int right) {
        lyingCount = 0;
        if (!isAlive(person) || !isRight(right)) {
            return NONE;
        }
        int left = at(now.age, person) - town.least;
        int served = 0;
        for (int round = 0; round < town.people; round++) {
            int next = cheapestToServe(person, right, left, served);
            if (next == NONE) {
                break;
            }
            left -= fewestToHave(next, right, left);
            served |= 1 << next;
            lay(next);
        }
        return lyingCount;
    }

    /** Who of one's FRIENDS, not served yet, would HAVE a RIGHT by the fewest years, up to left; NONE if nobody. */
    private int cheapestToServe(int person, int right, int left, int served) {
        int next = NONE;
        int fewest = left + 1;
        for (int p = 0; p < town.people; p++) {
            if (!isIn(served, p) && town.friendsOf(person, p) != NONE) {
                int years = fewestToHave(p, right, fewest - 1);
                if (years > 0) {
                    next = p;
                    fewest = years;
                }
            }
        }
        return next;
    }

    public int lies(int i) {
        return i >= 0 && i < lyingCount ? at(lying, i) : GAP;
    }

    private void lay(int number) {
        if (lyingCount < lying.length) {
            put(lying, lyingCount, number);
            lyingCount++;
        }
    }

    // ---- FACES

    public int face(int person, int age) {
        if (!isPerson(person) || !isAge(age) || faces.count >= MOST_FACES) {
            return NONE;
        }
        return faces.add(person, age);
    }

    public boolean untell(int face) {
        return faces.takeBack(face);
    }

    public int later(int by) {
        if (by < 0 || by > MOST_LATER || faces.time + by > MOST_TIME) {
            return NONE;
        }
        faces.time += by;
        return faces.time;
    }

    public int explained(int k) {
        lyingCount = 0;
        faces.gather(k);
        gifts.search(town, faces, NONE);
        for (int i = 0; i < gifts.firstLength; i++) {
            lay(at(gifts.first, i));
        }
        return gifts.found;
    }

    public int sure(int person, int k) {
        if (!isPerson(person)) {
            return NONE;
        }
        faces.gather(k);
        gifts.search(town, faces, person);
        if (gifts.found == 0) {
            return NONE;
        }
        return gifts.unlike ? -2 : gifts.watchedAge;
    }

    public int forged(int k) {
        faces.gather(k);
        return faces.forgedBy(town);
    }

    // ---- BOXES

    public int image(int box) {
        if (box < 0 || box >= boxes.length) {
            return NONE;
        }
        State.copy(now, boxes[box]);
        filledBoxes |= 1 << box;
        return now.year;
    }

    public int back(int box) {
        if (box < 0 || box >= boxes.length || !isIn(filledBoxes, box)) {
            return NONE;
        }
        State.copy(boxes[box], now);
        acts.begin(now);
        return now.year;
    }

    public int about(int what) {
        switch (what) {
            case 0: return town.people;
            case 1: return town.friends;
            case 2: return town.rights;
            case 3: return town.least;
            case 4: return town.most;
            case 5: return now.year;
            case 6: return now.seed;
            case 7: return now.alive;
            case 8: return now.loans;
            case 9: return now.defaults;
            case 10: return acts.done;
            case 11: return acts.undone;
            case 12: return Integer.bitCount(targeted);
            case 13: return faces.count;
            case 14: return faces.time;
            case 15: return fed;
            case 16: return town.units;
            case 17: return lyingCount;
            default: return NONE;
        }
    }

    // ---- rows and bits, looked at before they are used

    private static int at(int[] row, int i) {
        return row != null && i >= 0 && i < row.length ? row[i] : 0;
    }

    private static void put(int[] row, int i, int number) {
        if (row != null && i >= 0 && i < row.length) {
            row[i] = number;
        }
    }

    private static void copyRow(int[] from, int[] to) {
        if (from != null && to != null) {
            System.arraycopy(from, 0, to, 0, Math.min(from.length, to.length));
        }
    }

    private static boolean isIn(int bits, int i) {
        return i >= 0 && i < 32 && (bits >>> i & 1) != 0;
    }

    /** What a text told, as it was told. */
    private static final class Town {
        int people;
        final int[] age = new int[MOST_PEOPLE];
        final int[] coin = new int[MOST_PEOPLE];
        final int[] need = new int[MOST_PEOPLE];
        final int[] family = new int[MOST_PEOPLE];
        int friends;
        final int[] from = new int[MOST_FRIENDS];
        final int[] to = new int[MOST_FRIENDS];
        final int[] price = new int[MOST_FRIENDS];
        int rights;
        final int[] rightStart = new int[MOST_RIGHTS];
        int oddsStart;
        int least;
        int most;
        int draw;
        int units;
        final Formulas formulas = new Formulas();

        Town() {
            empty();
        }

        void empty() {
            people = 0;
            friends = 0;
            rights = 0;
            oddsStart = NONE;
            least = 0;
            most = 120;
            draw = 0;
            units = 0;
            formulas.size = 0;
        }

        void become(Town other) {
            people = other.people;
            copyRow(other.age, age);
            copyRow(other.coin, coin);
            copyRow(other.need, need);
            copyRow(other.family, family);
            friends = other.friends;
            copyRow(other.from, from);
            copyRow(other.to, to);
            copyRow(other.price, price);
            rights = other.rights;
            copyRow(other.rightStart, rightStart);
            oddsStart = other.oddsStart;
            least = other.least;
            most = other.most;
            draw = other.draw;
            units = other.units;
            formulas.size = other.formulas.size;
            copyRow(other.formulas.steps, formulas.steps);
        }

        int friendsOf(int giver, int taker) {
            for (int f = 0; f < friends && f < from.length && f < to.length; f++) {
                if (from[f] == giver && to[f] == taker) {
                    return f;
                }
            }
            return NONE;
        }

        void addPerson(int itsAge, int itsCoin, int itsNeed, int itsFamily) {
            put(age, people, itsAge);
            put(coin, people, itsCoin);
            put(need, people, itsNeed);
            put(family, people, itsFamily);
            people++;
        }

        void addFriends(int giver, int taker, int itsPrice) {
            put(from, friends, giver);
            put(to, friends, taker);
            put(price, friends, itsPrice);
            friends++;
        }

        void addRight(int start) {
            put(rightStart, rights, start);
            rights++;
        }
    }

    /** All formulas of a TOWN one behind the other, operands ahead of what joins them. */
    private static final class Formulas {
        static final int STOP = 0;
        static final int AGE = 1;
        static final int COIN = 2;
        static final int YEAR = 3;
        static final int FAMILY = 4;
        static final int NOT = 5;
        static final int OR = 6;
        static final int AND = 7;
        /** A sign stands for itself, above these and below the numbers, which begin here. */
        static final int NUMBERS = 128;

        /** A byte of the text makes one step at most. */
        private final int[] steps = new int[MOST_BYTES];
        int size;
        private final int[] stack = new int[MOST_UNITS_HERE + 1];
        private int height;

        void add(int step) {
            if (size >= 0 && size < steps.length) {
                steps[size] = step;
                size++;
            }
        }

        /** What comes of the formula from start on; 0 if there is none. */
        int value(int start, int age, int coin, int family, int year) {
            height = 0;
            for (int i = start; i >= 0 && i < size && i < steps.length; i++) {
                int step = steps[i];
                if (step == STOP) {
                    break;
                }
                if (step >= NUMBERS) {
                    push(step - NUMBERS);
                    continue;
                }
                switch (step) {
                    case AGE: push(age); break;
                    case COIN: push(coin); break;
                    case YEAR: push(year); break;
                    case FAMILY: push(family); break;
                    case NOT: push(truth(pop() == 0)); break;
                    default: {
                        int right = pop();
                        push(joined(step, pop(), right));
                    }
                }
            }
            return pop();
        }

        private void push(int number) {
            if (height >= 0 && height < stack.length) {
                stack[height] = number;
                height++;
            }
        }

        private int pop() {
            if (height <= 0 || height > stack.length) {
                return 0;
            }
            height--;
            return stack[height];
        }

        private static int truth(boolean so) {
            return so ? 1 : 0;
        }

        private static int joined(int step, int left, int right) {
            switch (step) {
                case OR: return truth(left != 0 || right != 0);
                case AND: return truth(left != 0 && right != 0);
                case '<': return truth(left < right);
                case '>': return truth(left > right);
                case '=': return truth(left == right);
                case '+': return left + right;
                case '-': return left - right;
                case '*': return left * right;
                case '/': return right == 0 ? 0 : left / right;
                case '%': return right == 0 ? 0 : left % right;
                default: return 0;
            }
        }
    }

    /** The TOKENS of a text, up to its end or to the first place where there is none. */
    private static final class Tokens {
        // A sign is its own byte, a word of WORDS is PERSON and its number more.
        static final int BAD = 0;
        static final int NAME = 1;
        static final int NUMBER = 2;
        static final int END = 3;
        static final int PERSON = 128;
        static final int AGE = 129;
        static final int COIN = 130;
        static final int NEED = 131;
        static final int FAMILY = 132;
        static final int FRIEND = 133;
        static final int TO = 134;
        static final int PRICE = 135;
        static final int RIGHT = 136;
        static final int ODDS = 137;
        static final int AGES = 138;
        static final int DRAW = 139;
        static final int OR = 140;
        static final int AND = 141;
        static final int NOT = 142;
        static final int YEAR = 143;
        /** In the order of the numbers above, a blank behind each. */
        private static final String WORDS =
            "person age coin need family friend to price right odds ages draw or and not year ";
        private static final String SIGNS = ";()<>=+-*/%";
        private static final int MOST_LETTERS = 8;
        private static final int MOST_DIGITS = 4;

        final int[] kinds = new int[MOST_BYTES + 1];
        final int[] places = new int[MOST_BYTES + 1];
        final int[] numbers = new int[MOST_BYTES + 1];
        final long[] names = new long[MOST_BYTES + 1];
        private int count;
        /** Behind the latest TOKEN. */
        private int next;

        void scan(byte[] text, int length) {
            count = 0;
            next = 0;
            int kind = NAME;
            for (int i = 0; i <= length && kind != END && kind != BAD; i++) {
                while (next < length && isBlank(byteAt(text, next))) {
                    next++;
                }
                put(places, count, next);
                int first = byteAt(text, next);
                if (next >= length) {
                    kind = END;
                } else if (isLetter(first)) {
                    kind = scanWord(text, length);
                } else if (isDigit(first)) {
                    kind = scanNumber(text, length);
                } else {
                    next++;
                    kind = SIGNS.indexOf((char) first) >= 0 ? first : BAD;
                }
                put(kinds, count, kind);
                count++;
            }
        }

        private int scanWord(byte[] text, int length) {
            int start = next;
            long name = 0;
            for (; next < length && isLetter(byteAt(text, next)); next++) {
                name = name * 27 + (byteAt(text, next) - 'a' + 1);
            }
            if (next - start > MOST_LETTERS) {
                return BAD;
            }
            if (count >= 0 && count < names.length) {
                names[count] = name;
            }
            return wordKind(text, start);
        }

        private int wordKind(byte[] text, int start) {
            int word = 0;
            int same = 0;
            for (int i = 0; i < WORDS.length(); i++) {
                int letter = WORDS.charAt(i);
                if (letter == ' ') {
                    if (same == next - start) {
                        return PERSON + word;
                    }
                    word++;
                    same = 0;
                } else {
                    same = same >= 0 && same < next - start && byteAt(text, start + same) == letter ? same + 1 : NONE;
                }
            }
            return NAME;
        }

        private int scanNumber(byte[] text, int length) {
            int start = next;
            int number = 0;
            for (; next < length && isDigit(byteAt(text, next)); next++) {
                number = number * 10 + (byteAt(text, next) - '0');
            }
            put(numbers, count, number);
            // Digits with a letter directly behind them are no N, as a longer row of them is none.
            boolean letterBehind = next < length && isLetter(byteAt(text, next));
            return letterBehind || next - start > MOST_DIGITS ? BAD : NUMBER;
        }

        private static int byteAt(byte[] text, int i) {
            return text != null && i >= 0 && i < text.length ? text[i] & 255 : 0;
        }

        private static boolean isBlank(int sign) {
            return sign == 32 || sign == 10;
        }

        private static boolean isLetter(int sign) {
            return sign >= 'a' && sign <= 'z';
        }

        private static boolean isDigit(int sign) {
            return sign >= '0' && sign <= '9';
        }
    }

    /** Reads a text into a draft of a TOWN, up to its first FAULT. */
    private static final class Reader {
        private static final int NO_TOKEN = 1;
        private static final int CANT_STAND = 2;
        private static final int TOLD_ALREADY = 3;
        private static final int CANT_BE = 4;
        private static final int NOBODY = 5;
        private static final int MOST_WITHIN = 6;

        int fault = 0;
        int faultPlace = NONE;
        /** A FAULT must leave the TOWN as it is: what is read goes here first. */
        final Town draft = new Town();
        private final Tokens tokens = new Tokens();
        /** The number of the TOKEN that is looked at, and its kind. */
        private int next;
        private int token;
        private int lines;
        private boolean drawTold;
        private int unitsHere;
        private int taken;
        /** As numbers, of the PEOPLE and of the RIGHTS told so far. */
        private final long[] names = new long[MOST_PEOPLE];
        private final long[] rightNames = new long[MOST_RIGHTS];

        boolean read(byte[] text, int length) {
            fault = 0;
            faultPlace = NONE;
            draft.empty();
            drawTold = false;
            tokens.scan(text, length);
            next = NONE;
            step();
            for (lines = 0; lines < MOST_BYTES && token != Tokens.END; lines++) {
                if (!line()) {
                    return false;
                }
            }
            return true;
        }

        private void step() {
            next++;
            token = next >= 0 && next < tokens.kinds.length ? tokens.kinds[next] : Tokens.END;
        }

        private long name() {
            return next >= 0 && next < tokens.names.length ? tokens.names[next] : 0;
        }

        private boolean refuse(int what) {
            fault = token == Tokens.BAD ? NO_TOKEN : what;
            faultPlace = next >= 0 && next < tokens.places.length ? tokens.places[next] : NONE;
            return false;
        }

        private boolean line() {
            switch (token) {
                case Tokens.PERSON: return personLine();
                case Tokens.FRIEND: return friendLine();
                case Tokens.RIGHT: return rightLine();
                case Tokens.ODDS: return oddsLine();
                case Tokens.AGES: return agesLine();
                case Tokens.DRAW: return drawLine();
                default: return refuse(CANT_STAND);
            }
        }

        private boolean personLine() {
            if (draft.people >= MOST_PEOPLE) {
                return refuse(CANT_STAND);
            }
            step();
            if (!takeNewName(names, draft.people)) {
                return false;
            }
            if (!takeNumber(Tokens.AGE, draft.least, draft.most)) {
                return false;
            }
            int age = taken;
            if (!takeNumber(Tokens.COIN, 0, MOST_COIN)) {
                return false;
            }
            int coin = taken;
            taken = age;
            if (token == Tokens.NEED && !takeNumber(Tokens.NEED, draft.least, draft.most)) {
                return false;
            }
            int need = taken;
            taken = 0;
            if (token == Tokens.FAMILY && !takeNumber(Tokens.FAMILY, 0, FAMILIES - 1)) {
                return false;
            }
            draft.addPerson(age, coin, need, taken);
            return take(';');
        }

        /** Takes a NAME that is not among the first so many of its sort, and puts it behind these. */
        private boolean takeNewName(long[] told, int count) {
            if (token != Tokens.NAME) {
                return refuse(CANT_STAND);
            }
            if (placeAmong(told, count) != NONE) {
                return refuse(TOLD_ALREADY);
            }
            if (count >= 0 && count < told.length) {
                told[count] = name();
            }
            step();
            return true;
        }

        /** Where the NAME that is looked at stands among the first so many, or NONE. */
        private int placeAmong(long[] told, int count) {
            long name = name();
            for (int i = 0; i < count && i < told.length; i++) {
                if (told[i] == name) {
                    return i;
                }
            }
            return NONE;
        }

        private boolean friendLine() {
            if (draft.friends >= MOST_FRIENDS) {
                return refuse(CANT_STAND);
            }
            step();
            int from = placeAmong(names, draft.people);
            if (!isSomebody(from)) {
                return false;
            }
            step();
            if (!take(Tokens.TO)) {
                return false;
            }
            int to = placeAmong(names, draft.people);
            if (!isSomebody(to)) {
                return false;
            }
            if (from == to || draft.friendsOf(from, to) != NONE) {
                return refuse(TOLD_ALREADY);
            }
            step();
            if (!takeNumber(Tokens.PRICE, 0, MOST_PRICE)) {
                return false;
            }
            draft.addFriends(from, to, taken);
            return take(';');
        }

        private boolean isSomebody(int person) {
            if (token != Tokens.NAME) {
                return refuse(CANT_STAND);
            }
            return person != NONE || refuse(NOBODY);
        }

        private boolean rightLine() {
            if (draft.rights >= MOST_RIGHTS) {
                return refuse(CANT_STAND);
            }
            step();
            if (!takeNewName(rightNames, draft.rights)) {
                return false;
            }
            draft.addRight(draft.formulas.size);
            return formula();
        }

        private boolean oddsLine() {
            if (draft.oddsStart != NONE) {
                return refuse(CANT_STAND);
            }
            step();
            draft.oddsStart = draft.formulas.size;
            return formula();
        }

        private boolean agesLine() {
            if (lines > 0) {
                return refuse(CANT_STAND);
            }
            if (!takeNumber(Tokens.AGES, 0, MOST_AGE)) {
                return false;
            }
            draft.least = taken;
            if (!takeNumber(Tokens.TO, draft.least, MOST_AGE)) {
                return false;
            }
            draft.most = taken;
            return take(';');
        }

        private boolean drawLine() {
            if (drawTold) {
                return refuse(CANT_STAND);
            }
            if (!takeNumber(Tokens.DRAW, 0, MOST_DRAW)) {
                return false;
            }
            drawTold = true;
            draft.draw = taken;
            return take(';');
        }

        private boolean take(int kind) {
            if (token != kind) {
                return refuse(CANT_STAND);
            }
            step();
            return true;
        }

        /** Takes a word and the number behind it. */
        private boolean takeNumber(int word, int least, int most) {
            if (!take(word)) {
                return false;
            }
            if (token != Tokens.NUMBER) {
                return refuse(CANT_STAND);
            }
            taken = at(tokens.numbers, next);
            if (taken < least || taken > most) {
                return refuse(CANT_BE);
            }
            step();
            return true;
        }

        private boolean formula() {
            unitsHere = 0;
            if (!either(0)) {
                return false;
            }
            draft.formulas.add(Formulas.STOP);
            return take(';');
        }

        // Within counts the units ( e ) and the ones behind not around: it is the guard of this recursion.

        private boolean either(int within) {
            if (!both(within)) {
                return false;
            }
            for (int i = 0; i < MOST_BYTES && token == Tokens.OR; i++) {
                step();
                if (!both(within)) {
                    return false;
                }
                draft.formulas.add(Formulas.OR);
            }
            return true;
        }

        private boolean both(int within) {
            if (!one(within)) {
                return false;
            }
            for (int i = 0; i < MOST_BYTES && token == Tokens.AND; i++) {
                step();
                if (!one(within)) {
                    return false;
                }
                draft.formulas.add(Formulas.AND);
            }
            return true;
        }

        private boolean one(int within) {
            if (token == Tokens.NOT) {
                if (within > MOST_WITHIN) {
                    return refuse(CANT_STAND);
                }
                step();
                if (!one(within + 1)) {
                    return false;
                }
                draft.formulas.add(Formulas.NOT);
                return true;
            }
            if (!amount(within)) {
                return false;
            }
            int sign = token;
            if (sign == '<' || sign == '>' || sign == '=') {
                step();
                if (!amount(within)) {
                    return false;
                }
                draft.formulas.add(sign);
            }
            return true;
        }

        private boolean amount(int within) {
            if (!term(within)) {
                return false;
            }
            for (int i = 0; i < MOST_BYTES && (token == '+' || token == '-'); i++) {
                int sign = token;
                step();
                if (!term(within)) {
                    return false;
                }
                draft.formulas.add(sign);
            }
            return true;
        }

        private boolean term(int within) {
            if (!unit(within)) {
                return false;
            }
            for (int i = 0; i < MOST_BYTES && (token == '*' || token == '/' || token == '%'); i++) {
                int sign = token;
                step();
                if (!unit(within)) {
                    return false;
                }
                draft.formulas.add(sign);
            }
            return true;
        }

        private boolean unit(int within) {
            int leaf = leafStep();
            if (leaf == NONE && (token != '(' || within > MOST_WITHIN)) {
                return refuse(CANT_STAND);
            }
            if (unitsHere >= MOST_UNITS_HERE || draft.units >= MOST_UNITS) {
                return refuse(CANT_STAND);
            }
            unitsHere++;
            draft.units++;
            step();
            if (leaf != NONE) {
                draft.formulas.add(leaf);
                return true;
            }
            return either(within + 1) && take(')');
        }

        /** The step of a unit of one TOKEN, or NONE if the TOKEN is none. */
        private int leafStep() {
            switch (token) {
                case Tokens.NUMBER: return Formulas.NUMBERS + at(tokens.numbers, next);
                case Tokens.AGE: return Formulas.AGE;
                case Tokens.COIN: return Formulas.COIN;
                case Tokens.YEAR: return Formulas.YEAR;
                case Tokens.FAMILY: return Formulas.FAMILY;
                default: return NONE;
            }
        }
    }

    /** All that ACTS change, and BOXES keep. */
    private static final class State {
        final int[] age = new int[MOST_PEOPLE];
        final int[] coin = new int[MOST_PEOPLE];
        int people;
        int alive;
        int year;
        int seed;
        int loans;
        int defaults;
        /** LOANS that are OVER, as bits. */
        int over;
        final int[] lender = new int[MOST_LOANS];
        final int[] holder = new int[MOST_LOANS];
        final int[] lent = new int[MOST_LOANS];
        final int[] till = new int[MOST_LOANS];

        void begin(Town town) {
            copyRow(town.age, age);
            copyRow(town.coin, coin);
            people = town.people;
            alive = (1 << people) - 1;
            year = 0;
            seed = town.draw;
            loans = 0;
            defaults = 0;
            over = 0;
        }

        static void copy(State from, State to) {
            if (from == null || to == null) {
                return;
            }
            copyRow(from.age, to.age);
            copyRow(from.coin, to.coin);
            to.people = from.people;
            to.alive = from.alive;
            to.year = from.year;
            to.seed = from.seed;
            to.loans = from.loans;
            to.defaults = from.defaults;
            to.over = from.over;
            copyRow(from.lender, to.lender);
            copyRow(from.holder, to.holder);
            copyRow(from.lent, to.lent);
            copyRow(from.till, to.till);
        }

        boolean canMove(int from, int to, int n, int least, int most) {
            return at(age, from) - n >= least && at(age, to) + n <= most;
        }

        void moveYears(int from, int to, int n) {
            put(age, from, at(age, from) - n);
            put(age, to, at(age, to) + n);
        }

        void pay(int from, int to, int coins) {
            put(coin, from, at(coin, from) - coins);
            put(coin, to, at(coin, to) + coins);
        }

        int addLoan(int from, int to, int n, int itsTill) {
            int loan = loans;
            put(lender, loan, from);
            put(holder, loan, to);
            put(lent, loan, n);
            put(till, loan, itsTill);
            loans++;
            return loan;
        }

        void growOlder(int most) {
            for (int p = 0; p < people; p++) {
                if (isIn(alive, p)) {
                    put(age, p, Math.min(most, at(age, p) + 1));
                }
            }
        }

        void bringBack(int least, int most) {
            for (int loan = 0; loan < loans; loan++) {
                if (at(till, loan) == year && !isIn(over, loan)) {
                    over |= 1 << loan;
                    returnYears(at(holder, loan), at(lender, loan), at(lent, loan), least, most);
                }
            }
        }

        private void returnYears(int from, int to, int n, int least, int most) {
            if (!isIn(alive, from) || !isIn(alive, to)) {
                return;
            }
            if (canMove(from, to, n, least, most)) {
                moveYears(from, to, n);
            } else {
                defaults++;
            }
        }
    }

    /** How all was behind each ACT that is kept, in a ring of one more than these. */
    private static final class History {
        private final State[] states = new State[MOST_ACTS + 1];
        private int oldest = 0;
        int done = 0;
        int undone = 0;

        History() {
            for (int i = 0; i < states.length; i++) {
                states[i] = new State();
            }
        }

        void begin(State now) {
            oldest = 0;
            done = 0;
            undone = 0;
            State.copy(now, stateAfter(0));
        }

        void add(State now) {
            if (done < MOST_ACTS) {
                done++;
            } else {
                oldest = (oldest + 1) % (MOST_ACTS + 1);
            }
            undone = 0;
            State.copy(now, stateAfter(done));
        }

        boolean goBack(State now) {
            if (done <= 0) {
                return false;
            }
            done--;
            undone++;
            State.copy(stateAfter(done), now);
            return true;
        }

        boolean goOn(State now) {
            if (undone <= 0) {
                return false;
            }
            undone--;
            done++;
            State.copy(stateAfter(done), now);
            return true;
        }

        private State stateAfter(int act) {
            int i = (oldest + act) % (MOST_ACTS + 1);
            return i >= 0 && i < states.length ? states[i] : null;
        }
    }

    /** What years cost that go by ROADS. */
    private static final class Roads {
        /** What each has too much of (below 0: lacks), for settle. */
        final int[] spare = new int[MOST_PEOPLE];
        /** What it costs that one is of an age, of priceAges; FAR if he can't be. */
        final int[] priceOfAge = new int[MOST_AGE + 1];
        private final int[] roadPrice = new int[MOST_PEOPLE * MOST_PEOPLE];
        private final int[] room = new int[MOST_PEOPLE];
        private final int[] sent = new int[MOST_FRIENDS];
        private final int[] reachPrice = new int[MOST_PEOPLE];
        /** The FRIENDS by whom one is reached; those by whom years are taken back are MOST_FRIENDS more. */
        private final int[] reachedBy = new int[MOST_PEOPLE];

        void measure(Town town, int alive) {
            for (int i = 0; i < roadPrice.length; i++) {
                roadPrice[i] = FAR;
            }
            for (int f = 0; f < town.friends; f++) {
                int from = at(town.from, f);
                int to = at(town.to, f);
                if (isIn(alive, from) && isIn(alive, to)) {
                    put(roadPrice, from * MOST_PEOPLE + to, at(town.price, f));
                }
            }
            for (int by = 0; by < town.people; by++) {
                for (int from = 0; from < town.people; from++) {
                    shortenRoads(from, by, town.people);
                }
            }
        }

        private void shortenRoads(int from, int by, int people) {
            int first = roadFrom(from, by);
            if (first >= FAR) {
                return;
            }
            for (int to = 0; to < people; to++) {
                int price = first + roadFrom(by, to);
                if (price < roadFrom(from, to)) {
                    put(roadPrice, from * MOST_PEOPLE + to, price);
                }
            }
        }

        private int roadFrom(int from, int to) {
            return at(roadPrice, from * MOST_PEOPLE + to);
        }

        /** Each year more or less comes from, goes to whom it costs least who has room for it yet. */
        void priceAges(Town town, State now, int person) {
            for (int i = 0; i < priceOfAge.length; i++) {
                priceOfAge[i] = FAR;
            }
            int age = at(now.age, person);
            put(priceOfAge, age, 0);
            for (int p = 0; p < MOST_PEOPLE; p++) {
                boolean other = isIn(now.alive, p) && p != person;
                put(room, p, other ? at(now.age, p) - town.least : 0);
            }
            priceSteps(person, age, town.most, 1);
            for (int p = 0; p < MOST_PEOPLE; p++) {
                boolean other = isIn(now.alive, p) && p != person;
                put(room, p, other ? town.most - at(now.age, p) : 0);
            }
            priceSteps(person, age, town.least, -1);
        }

        private void priceSteps(int person, int age, int last, int by) {
            int price = 0;
            int years = (last - age) * by;
            for (int i = 1; i <= years; i++) {
                int other = nearestWithRoom(person, by > 0);
                if (other == NONE) {
                    return;
                }
                put(room, other, at(room, other) - 1);
                price += by > 0 ? roadFrom(other, person) : roadFrom(person, other);
                put(priceOfAge, age + i * by, price);
            }
        }

        private int nearestWithRoom(int person, boolean takes) {
            int best = FAR;
            int nearest = NONE;
            for (int p = 0; p < MOST_PEOPLE; p++) {
                int price = takes ? roadFrom(p, person) : roadFrom(person, p);
                if (at(room, p) > 0 && price < best) {
                    best = price;
                    nearest = p;
                }
            }
            return nearest;
        }

        /** The fewest prices by which nobody has too much or lacks anything; NONE if it can't be. */
        int settle(Town town, int alive) {
            int together = 0;
            int most = 0;
            for (int p = 0; p < spare.length; p++) {
                together += spare[p];
                most += Math.max(0, spare[p]);
            }
            if (together != 0) {
                return NONE;
            }
            for (int f = 0; f < sent.length; f++) {
                sent[f] = 0;
            }
            int prices = 0;
            int left = most;
            for (int round = 0; round < most && left > 0; round++) {
                findWays(town, alive);
                int goal = nearestWhoLacks();
                if (goal == NONE) {
                    return NONE;
                }
                int price = at(reachPrice, goal);
                int years = sendTo(town, goal);
                prices += years * price;
                left -= years;
            }
            return prices;
        }

        /** The cheapest ways from who has too much, also by taking back what was sent. */
        private void findWays(Town town, int alive) {
            for (int p = 0; p < MOST_PEOPLE; p++) {
                put(reachPrice, p, at(spare, p) > 0 ? 0 : FAR);
                put(reachedBy, p, NONE);
            }
            boolean better = true;
            for (int round = 0; round < MOST_PEOPLE && better; round++) {
                better = false;
                for (int f = 0; f < town.friends; f++) {
                    int from = at(town.from, f);
                    int to = at(town.to, f);
                    if (isIn(alive, from) && isIn(alive, to)) {
                        int price = at(town.price, f);
                        better |= improve(from, to, price, f);
                        better |= at(sent, f) > 0 && improve(to, from, -price, f + MOST_FRIENDS);
                    }
                }
            }
        }

        private boolean improve(int from, int to, int price, int by) {
            int start = at(reachPrice, from);
            if (start >= FAR || start + price >= at(reachPrice, to)) {
                return false;
            }
            put(reachPrice, to, start + price);
            put(reachedBy, to, by);
            return true;
        }

        private int nearestWhoLacks() {
            int best = FAR;
            int nearest = NONE;
            for (int p = 0; p < MOST_PEOPLE; p++) {
                if (at(spare, p) < 0 && at(reachPrice, p) < best) {
                    best = at(reachPrice, p);
                    nearest = p;
                }
            }
            return nearest;
        }

        /** Sends as many years to one as the way to him bears: how many. */
        private int sendTo(Town town, int goal) {
            int years = -at(spare, goal);
            int who = goal;
            for (int i = 0; i < MOST_PEOPLE && at(reachedBy, who) != NONE; i++) {
                int by = at(reachedBy, who);
                if (by >= MOST_FRIENDS) {
                    years = Math.min(years, at(sent, by - MOST_FRIENDS));
                }
                who = beforeOn(town, by);
            }
            years = Math.min(years, at(spare, who));
            put(spare, who, at(spare, who) - years);
            put(spare, goal, at(spare, goal) + years);
            who = goal;
            for (int i = 0; i < MOST_PEOPLE && at(reachedBy, who) != NONE; i++) {
                int by = at(reachedBy, who);
                int friends = by % MOST_FRIENDS;
                put(sent, friends, at(sent, friends) + (by >= MOST_FRIENDS ? -years : years));
                who = beforeOn(town, by);
            }
            return years;
        }

        private static int beforeOn(Town town, int by) {
            return by >= MOST_FRIENDS ? at(town.to, by - MOST_FRIENDS) : at(town.from, by);
        }
    }

    /** LOANS that are not OVER, netted. */
    private static final class Debts {
        final int[] nets = new int[MOST_PEOPLE];
        private int people;
        /** Of each group of PEOPLE, as bits: its NETS together, and into how many settled groups it falls. */
        private final int[] together = new int[1 << MOST_PEOPLE];
        private final int[] settled = new int[1 << MOST_PEOPLE];
        /** To whom years of each went, on and on, as bits. */
        private final int[] wentTo = new int[MOST_PEOPLE];

        void gather(State now) {
            people = now.people;
            for (int p = 0; p < nets.length; p++) {
                nets[p] = 0;
            }
            for (int loan = 0; loan < now.loans; loan++) {
                if (!isIn(now.over, loan)) {
                    int lender = at(now.lender, loan);
                    int holder = at(now.holder, loan);
                    put(nets, lender, at(nets, lender) + at(now.lent, loan));
                    put(nets, holder, at(nets, holder) - at(now.lent, loan));
                }
            }
        }

        /** A group that settles within itself needs one payment less than it has people. */
        int fewestPayments() {
            int groups = 1 << people;
            for (int group = 0; group < groups; group++) {
                int sum = 0;
                int most = 0;
                for (int p = 0; p < people; p++) {
                    if (isIn(group, p)) {
                        int rest = group & ~(1 << p);
                        sum = at(together, rest) + at(nets, p);
                        most = Math.max(most, at(settled, rest));
                    }
                }
                put(together, group, sum);
                put(settled, group, group != 0 && sum == 0 ? most + 1 : most);
            }
            return people - at(settled, groups - 1);
        }

        int ringOf(State now) {
            for (int p = 0; p < wentTo.length; p++) {
                wentTo[p] = 0;
            }
            for (int loan = 0; loan < now.loans; loan++) {
                if (!isIn(now.over, loan)) {
                    int lender = at(now.lender, loan);
                    put(wentTo, lender, at(wentTo, lender) | 1 << at(now.holder, loan));
                }
            }
            for (int by = 0; by < wentTo.length; by++) {
                for (int p = 0; p < wentTo.length; p++) {
                    if (isIn(wentTo[p], by)) {
                        wentTo[p] |= wentTo[by];
                    }
                }
            }
            int ring = 0;
            for (int p = 0; p < wentTo.length; p++) {
                ring |= isIn(wentTo[p], p) ? 1 << p : 0;
            }
            return ring;
        }
    }

    /** Ages of which the ODDS together are the fewest. */
    private static final class Safety {
        private static final int MOST_YEARS = MOST_PEOPLE * MOST_AGE;
        /** Of each age, told from outside. */
        final int[] odds = new int[MOST_AGE + 1];
        /** By PEOPLE; of the dead they are free. */
        final int[] ages = new int[MOST_PEOPLE];
        /** The fewest ODDS of so many people with so many years above LEAST, people by people. */
        private final int[] fewest = new int[(MOST_PEOPLE + 1) * (MOST_YEARS + 1)];
        private int least;
        private int span;

        /** Spreads the years of all who are alive: ODDS together. */
        int spread(Town town, State now) {
            least = town.least;
            span = town.most - town.least;
            int people = 0;
            int years = 0;
            for (int p = 0; p < now.people; p++) {
                if (isIn(now.alive, p)) {
                    people++;
                    years += at(now.age, p) - least;
                }
            }
            fillRows(people, years);
            int together = fewestOf(people, years);
            for (int p = 0; p < now.people; p++) {
                if (isIn(now.alive, p)) {
                    people--;
                    int above = firstBest(people, years);
                    put(ages, p, least + above);
                    years -= above;
                }
            }
            return together;
        }

        /** Only what can be left for so many people behind the others is filled. */
        private void fillRows(int people, int years) {
            put(fewest, 0, 0);
            for (int row = 1; row <= people; row++) {
                int from = Math.max(0, years - (people - row) * span);
                int to = Math.min(years, row * span);
                for (int left = from; left <= to; left++) {
                    put(fewest, row * (MOST_YEARS + 1) + left, fewestBy(row, left));
                }
            }
        }

        private int fewestBy(int row, int left) {
            int best = FAR;
            int to = Math.min(span, left);
            int behind = (row - 1) * (MOST_YEARS + 1) + left;
            for (int above = Math.max(0, left - (row - 1) * span); above <= to && best > 0; above++) {
                int age = least + above;
                int rest = behind - above;
                if (age >= 0 && age < odds.length && rest >= 0 && rest < fewest.length) {
                    best = Math.min(best, odds[age] + fewest[rest]);
                }
            }
            return best;
        }

        private int fewestOf(int people, int years) {
            return at(fewest, people * (MOST_YEARS + 1) + years);
        }

        /** The least years above LEAST of one ahead of so many people, that all are best then. */
        private int firstBest(int behind, int years) {
            int best = fewestOf(behind + 1, years);
            int to = Math.min(span, years);
            for (int above = Math.max(0, years - behind * span); above <= to; above++) {
                if (at(odds, least + above) + fewestOf(behind, years - above) == best) {
                    return above;
                }
            }
            return 0;
        }
    }

    /** FACES, when they were TOLD and UNTOLD, and what they ask. */
    private static final class Faces {
        int count = 0;
        int time = 0;
        private final int[] person = new int[MOST_FACES];
        private final int[] age = new int[MOST_FACES];
        private final int[] told = new int[MOST_FACES];
        /** NONE while it is not. */
        private final int[] untold = new int[MOST_FACES];
        /** Whose FACES count, as bits, and the ages that they ask; whether two ask unlike ages of one. */
        int asked = 0;
        final int[] ages = new int[MOST_PEOPLE];
        boolean clash = false;

        void clear() {
            count = 0;
        }

        int add(int itsPerson, int itsAge) {
            put(person, count, itsPerson);
            put(age, count, itsAge);
            put(told, count, time);
            put(untold, count, NONE);
            count++;
            return count - 1;
        }

        boolean takeBack(int face) {
            if (face < 0 || face >= count || at(untold, face) != NONE) {
                return false;
            }
            put(untold, face, time);
            return true;
        }

        void gather(int k) {
            asked = 0;
            clash = false;
            for (int face = 0; face < count; face++) {
                int ended = at(untold, face);
                if (at(told, face) <= k && (ended == NONE || ended > k)) {
                    ask(at(person, face), at(age, face));
                }
            }
        }

        private void ask(int who, int itsAge) {
            clash |= isIn(asked, who) && at(ages, who) != itsAge;
            put(ages, who, itsAge);
            asked |= 1 << who;
        }

        /** PEOPLE by whose forged birth alone all is so, as bits. */
        int forgedBy(Town town) {
            int wrong = 0;
            for (int p = 0; p < town.people; p++) {
                if (isIn(asked, p) && at(ages, p) != at(town.age, p)) {
                    wrong |= 1 << p;
                }
            }
            return !clash && Integer.bitCount(wrong) == 1 ? wrong : 0;
        }
    }

    /** All GIFTS by which FACES can be so. */
    private static final class Gifts {
        private static final int MOST_YEARS = 9;
        int found;
        int firstLength;
        final int[] first = new int[4];
        int watchedAge;
        boolean unlike;
        private final int[] gifts = new int[4];
        private final int[] ages = new int[MOST_PEOPLE];
        private final int[] wanted = new int[MOST_PEOPLE];
        private int asked;
        /** How many are not of the age that is asked of them. */
        private int wrong;

        /** Also watches the age of one, if all of them make it the same. */
        void search(Town town, Faces faces, int watched) {
            begin(town, faces);
            if (faces.clash) {
                return;
            }
            note(0, watched);
            for (int f = 0; f < town.friends; f++) {
                for (int years = 1; years <= MOST_YEARS; years++) {
                    shift(town, f, 1);
                    put(gifts, 0, f);
                    put(gifts, 1, years);
                    note(2, watched);
                    addSecond(town, f + 1, watched);
                }
                shift(town, f, -MOST_YEARS);
            }
        }

        private void begin(Town town, Faces faces) {
            found = 0;
            firstLength = 0;
            watchedAge = 0;
            unlike = false;
            asked = faces.asked;
            copyRow(faces.ages, wanted);
            copyRow(town.age, ages);
            wrong = 0;
            for (int p = 0; p < town.people; p++) {
                wrong += isWrong(p) ? 1 : 0;
            }
        }

        private void addSecond(Town town, int from, int watched) {
            // One GIFT can set two ages right at most.
            if (wrong > 2) {
                return;
            }
            for (int f = from; f < town.friends; f++) {
                for (int years = 1; years <= MOST_YEARS; years++) {
                    shift(town, f, 1);
                    put(gifts, 2, f);
                    put(gifts, 3, years);
                    note(4, watched);
                }
                shift(town, f, -MOST_YEARS);
            }
        }

        private void shift(Town town, int friends, int years) {
            grow(at(town.from, friends), -years);
            grow(at(town.to, friends), years);
        }

        private void grow(int person, int years) {
            wrong -= isWrong(person) ? 1 : 0;
            put(ages, person, at(ages, person) + years);
            wrong += isWrong(person) ? 1 : 0;
        }

        private boolean isWrong(int person) {
            return isIn(asked, person) && at(ages, person) != at(wanted, person);
        }

        /** Counts the GIFTS, of so many numbers, if all is so by them; fewer GIFTS come first. */
        private void note(int length, int watched) {
            if (wrong > 0) {
                return;
            }
            int age = at(ages, watched);
            unlike |= found > 0 && age != watchedAge;
            watchedAge = age;
            if (found == 0 || length < firstLength) {
                firstLength = length;
                copyRow(gifts, first);
            }
            found++;
        }
    }
}
