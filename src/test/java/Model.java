import java.util.ArrayList;
import java.util.Arrays;
import java.util.HashMap;
import java.util.List;
import java.util.Map;
import java.util.PriorityQueue;

/** The document told a second time, plainly and slowly, by other ways than the class: random runs compare both. */
final class Model {
    static final int NONE = -1;
    static final int GAP = -1000000;
    private static final int FAR = 1 << 28;

    int least = 0;
    int most = 120;
    int draw = 0;
    final List<int[]> people = new ArrayList<>();
    final List<int[]> friends = new ArrayList<>();
    final List<String> rights = new ArrayList<>();
    String odds = null;

    Now now;
    final List<Now> before = new ArrayList<>();
    final List<Now> after = new ArrayList<>();
    final Now[] boxes = new Now[3];
    final Map<Integer, Integer> targets = new HashMap<>();
    final List<int[]> faces = new ArrayList<>();
    int time = 0;
    int[] lying = {};

    /** All that ACTS change. */
    static final class Now {
        int[] age;
        int[] coin;
        boolean[] alive;
        int year;
        int seed;
        int defaults;
        List<int[]> loans = new ArrayList<>();

        Now copy() {
            Now other = new Now();
            other.age = age.clone();
            other.coin = coin.clone();
            other.alive = alive.clone();
            other.year = year;
            other.seed = seed;
            other.defaults = defaults;
            for (int[] loan : loans) {
                other.loans.add(loan.clone());
            }
            return other;
        }
    }

    void begin() {
        now = new Now();
        now.age = people.stream().mapToInt(p -> p[0]).toArray();
        now.coin = people.stream().mapToInt(p -> p[1]).toArray();
        now.alive = new boolean[people.size()];
        Arrays.fill(now.alive, true);
        now.seed = draw;
    }

    // ---- formulas, reckoned from their text each time

    static final class Reckoner {
        private final String[] tokens;
        private int i = 0;
        private final int age;
        private final int coin;
        private final int family;
        private final int year;

        Reckoner(String text, int age, int coin, int family, int year) {
            tokens = text.trim().split(" +");
            this.age = age;
            this.coin = coin;
            this.family = family;
            this.year = year;
        }

        private boolean next(String token) {
            if (i < tokens.length && tokens[i].equals(token)) {
                i++;
                return true;
            }
            return false;
        }

        int either() {
            int value = both();
            while (next("or")) {
                int other = both();
                value = value != 0 || other != 0 ? 1 : 0;
            }
            return value;
        }

        private int both() {
            int value = one();
            while (next("and")) {
                int other = one();
                value = value != 0 && other != 0 ? 1 : 0;
            }
            return value;
        }

        private int one() {
            if (next("not")) {
                return one() == 0 ? 1 : 0;
            }
            int value = sum();
            if (next("<")) {
                return value < sum() ? 1 : 0;
            }
            if (next(">")) {
                return value > sum() ? 1 : 0;
            }
            if (next("=")) {
                return value == sum() ? 1 : 0;
            }
            return value;
        }

        private int sum() {
            int value = term();
            for (;;) {
                if (next("+")) {
                    value += term();
                } else if (next("-")) {
                    value -= term();
                } else {
                    return value;
                }
            }
        }

        private int term() {
            int value = unit();
            for (;;) {
                if (next("*")) {
                    value *= unit();
                } else if (next("/")) {
                    int by = unit();
                    value = by == 0 ? 0 : value / by;
                } else if (next("%")) {
                    int by = unit();
                    value = by == 0 ? 0 : value % by;
                } else {
                    return value;
                }
            }
        }

        private int unit() {
            if (next("(")) {
                int value = either();
                next(")");
                return value;
            }
            String token = tokens[i++];
            switch (token) {
                case "age": return age;
                case "coin": return coin;
                case "family": return family;
                case "year": return year;
                default: return Integer.parseInt(token);
            }
        }
    }

    boolean would(int p, int right, int age) {
        return now.alive[p]
            && new Reckoner(rights.get(right), age, now.coin[p], people.get(p)[3], now.year).either() != 0;
    }

    int oddsAt(int age) {
        int value = odds == null ? 0 : new Reckoner(odds, age, 0, 0, now.year).either();
        return value < 0 ? 0 : value > 100 ? 100 : value;
    }

    boolean isPerson(int p) {
        return p >= 0 && p < people.size();
    }

    boolean isRight(int r) {
        return r >= 0 && r < rights.size();
    }

    boolean isAge(int age) {
        return age >= least && age <= most;
    }

    int person(int p, int what) {
        if (!isPerson(p) || what < 0 || what > 4) {
            return NONE;
        }
        return new int[] {now.age[p], now.coin[p], now.alive[p] ? 1 : 0, people.get(p)[2], people.get(p)[3]}[what];
    }

    int has(int p, int right) {
        return isPerson(p) && isRight(right) ? would(p, right, now.age[p]) ? 1 : 0 : NONE;
    }

    int odds(int age) {
        return isAge(age) ? oddsAt(age) : NONE;
    }

    int sum(int family) {
        if (family < -1 || family > 3) {
            return GAP;
        }
        int sum = 0;
        for (int p : living()) {
            sum += family == -1 || people.get(p)[3] == family ? now.age[p] : 0;
        }
        return sum;
    }

    List<Integer> living() {
        List<Integer> living = new ArrayList<>();
        for (int p = 0; p < people.size(); p++) {
            if (now.alive[p]) {
                living.add(p);
            }
        }
        return living;
    }

    // ---- ACTS

    private int[] friendsOf(int from, int to) {
        for (int[] f : friends) {
            if (f[0] == from && f[1] == to) {
                return f;
            }
        }
        return null;
    }

    private boolean canGo(int from, int to, int n) {
        return n >= 1 && n <= 99 && isPerson(from) && isPerson(to) && friendsOf(from, to) != null
            && now.alive[from] && now.alive[to] && isAge(now.age[from] - n) && isAge(now.age[to] + n);
    }

    private void act() {
        before.add(now.copy());
        if (before.size() > 40) {
            before.remove(0);
        }
        after.clear();
    }

    int give(int from, int to, int n) {
        if (!canGo(from, to, n) || now.coin[to] < n * friendsOf(from, to)[2]) {
            return NONE;
        }
        int cost = n * friendsOf(from, to)[2];
        act();
        now.age[from] -= n;
        now.age[to] += n;
        now.coin[to] -= cost;
        now.coin[from] += cost;
        return cost;
    }

    int lend(int from, int to, int n, int till) {
        if (!canGo(from, to, n) || till <= now.year || till > 1000 || now.loans.size() == 30) {
            return NONE;
        }
        act();
        now.age[from] -= n;
        now.age[to] += n;
        now.loans.add(new int[] {from, to, n, till, 0});
        return now.loans.size() - 1;
    }

    int year() {
        if (now.year == 1000) {
            return NONE;
        }
        act();
        now.year++;
        for (int p : living()) {
            now.age[p] = now.age[p] == most ? most : now.age[p] + 1;
        }
        for (int[] loan : now.loans) {
            if (loan[3] == now.year) {
                loan[4] = 1;
                int lender = loan[0];
                int holder = loan[1];
                if (now.alive[lender] && now.alive[holder]) {
                    if (isAge(now.age[holder] - loan[2]) && isAge(now.age[lender] + loan[2])) {
                        now.age[holder] -= loan[2];
                        now.age[lender] += loan[2];
                    } else {
                        now.defaults++;
                    }
                }
            }
        }
        int dead = 0;
        for (int p : living()) {
            now.seed = (now.seed * 137 + 71) % 1000;
            if (now.seed / 10 < oddsAt(now.age[p])) {
                now.alive[p] = false;
                dead++;
            }
        }
        return dead;
    }

    boolean undo() {
        if (before.isEmpty()) {
            return false;
        }
        after.add(now);
        now = before.remove(before.size() - 1);
        return true;
    }

    boolean redo() {
        if (after.isEmpty()) {
            return false;
        }
        before.add(now);
        now = after.remove(after.size() - 1);
        return true;
    }

    int loan(int loan, int what) {
        boolean is = loan >= 0 && loan < now.loans.size() && what >= 0 && what <= 4;
        return is ? now.loans.get(loan)[what] : NONE;
    }

    int image(int box) {
        if (box < 0 || box > 2) {
            return NONE;
        }
        boxes[box] = now.copy();
        return now.year;
    }

    int back(int box) {
        if (box < 0 || box > 2 || boxes[box] == null) {
            return NONE;
        }
        now = boxes[box].copy();
        before.clear();
        after.clear();
        return now.year;
    }

    // ---- ROADS: each year is one row, each place for it one column, and the cheapest pairing is sought

    int target(int p, int age) {
        if (!isPerson(p) || !isAge(age)) {
            return NONE;
        }
        targets.put(p, age);
        return targets.size();
    }

    int hush() {
        int size = targets.size();
        targets.clear();
        return size;
    }

    /** By walking from one to all by the cheapest way, one after the other. */
    int road(int from, int to) {
        int n = people.size();
        int[] price = new int[n];
        Arrays.fill(price, FAR);
        price[from] = 0;
        PriorityQueue<int[]> open = new PriorityQueue<>((a, b) -> Integer.compare(a[1], b[1]));
        open.add(new int[] {from, 0});
        while (!open.isEmpty()) {
            int[] top = open.poll();
            if (top[1] > price[top[0]]) {
                continue;
            }
            for (int[] f : friends) {
                if (f[0] == top[0] && now.alive[f[0]] && now.alive[f[1]] && top[1] + f[2] < price[f[1]]) {
                    price[f[1]] = top[1] + f[2];
                    open.add(new int[] {f[1], price[f[1]]});
                }
            }
        }
        return price[to];
    }

    int cheapest() {
        List<Integer> give = new ArrayList<>();
        List<Integer> take = new ArrayList<>();
        for (int p : living()) {
            int want = targets.getOrDefault(p, now.age[p]);
            for (int i = want; i < now.age[p]; i++) {
                give.add(p);
            }
            for (int i = now.age[p]; i < want; i++) {
                take.add(p);
            }
        }
        if (give.size() != take.size()) {
            return NONE;
        }
        int n = people.size();
        int[][] road = new int[n][n];
        for (int p = 0; p < n; p++) {
            for (int q = 0; q < n; q++) {
                road[p][q] = Math.min(1000000, road(p, q));
            }
        }
        long price = pairing(give, take, road);
        return price >= 1000000 ? NONE : (int) price;
    }

    /** The cheapest pairing of each one of a row with one of the other (the Hungarian way). */
    private static long pairing(List<Integer> rows, List<Integer> columns, int[][] price) {
        int n = rows.size();
        long[] u = new long[n + 1];
        long[] v = new long[n + 1];
        int[] match = new int[n + 1];
        int[] way = new int[n + 1];
        for (int i = 1; i <= n; i++) {
            match[0] = i;
            int j0 = 0;
            long[] min = new long[n + 1];
            Arrays.fill(min, Long.MAX_VALUE / 4);
            boolean[] used = new boolean[n + 1];
            do {
                used[j0] = true;
                long delta = Long.MAX_VALUE / 4;
                int j1 = 0;
                for (int j = 1; j <= n; j++) {
                    if (!used[j]) {
                        long cur = price[rows.get(match[j0] - 1)][columns.get(j - 1)] - u[match[j0]] - v[j];
                        if (cur < min[j]) {
                            min[j] = cur;
                            way[j] = j0;
                        }
                        if (min[j] < delta) {
                            delta = min[j];
                            j1 = j;
                        }
                    }
                }
                for (int j = 0; j <= n; j++) {
                    if (used[j]) {
                        u[match[j]] += delta;
                        v[j] -= delta;
                    } else {
                        min[j] -= delta;
                    }
                }
                j0 = j1;
            } while (match[j0] != 0);
            do {
                int j1 = way[j0];
                match[j0] = match[j1];
                j0 = j1;
            } while (j0 != 0);
        }
        return -v[0];
    }

    /** The prices of all single years that could come (go), in order, summed up. */
    private int priceToBe(int p, int age) {
        int by = age - now.age[p];
        List<Integer> prices = new ArrayList<>();
        for (int q : living()) {
            if (q != p) {
                int road = by > 0 ? road(q, p) : road(p, q);
                int room = by > 0 ? now.age[q] - least : most - now.age[q];
                for (int i = 0; i < room && road < FAR; i++) {
                    prices.add(road);
                }
            }
        }
        prices.sort(null);
        if (prices.size() < Math.abs(by)) {
            return FAR;
        }
        return prices.subList(0, Math.abs(by)).stream().mapToInt(i -> i).sum();
    }

    int barred() {
        int bits = 0;
        for (int p : living()) {
            if (targets.containsKey(p) && priceToBe(p, targets.get(p)) >= FAR) {
                bits |= 1 << p;
            }
        }
        return bits;
    }

    int reach(int p, int right, int what) {
        if (!isPerson(p) || !now.alive[p] || !isRight(right) || what < 0 || what > 1) {
            return NONE;
        }
        int best = FAR;
        int bestAge = NONE;
        for (int age = most; age >= least; age--) {
            if (would(p, right, age)) {
                int price = priceToBe(p, age);
                if (price < FAR && price <= best) {
                    best = price;
                    bestAge = age;
                }
            }
        }
        return bestAge == NONE ? NONE : what == 0 ? best : bestAge;
    }

    // ---- LOANS

    private int[] nets() {
        int[] nets = new int[people.size()];
        for (int[] loan : now.loans) {
            if (loan[4] == 0) {
                nets[loan[0]] += loan[2];
                nets[loan[1]] -= loan[2];
            }
        }
        return nets;
    }

    int net(int p) {
        return isPerson(p) ? nets()[p] : GAP;
    }

    int payments() {
        return payments(nets(), 0);
    }

    /** The first one who is not settled pays to, is paid by each other one of the other sign in turn. */
    private static int payments(int[] nets, int from) {
        int first = from;
        while (first < nets.length && nets[first] == 0) {
            first++;
        }
        if (first == nets.length) {
            return 0;
        }
        int best = Integer.MAX_VALUE / 2;
        for (int other = first + 1; other < nets.length; other++) {
            if (Integer.signum(nets[other]) == -Integer.signum(nets[first])) {
                nets[other] += nets[first];
                best = Math.min(best, 1 + payments(nets, first + 1));
                nets[other] -= nets[first];
            }
        }
        return best;
    }

    int ring() {
        int bits = 0;
        for (int p = 0; p < people.size(); p++) {
            if (comes(p, p, new boolean[people.size()])) {
                bits |= 1 << p;
            }
        }
        return bits;
    }

    private boolean comes(int from, int to, boolean[] seen) {
        for (int[] loan : now.loans) {
            if (loan[4] == 0 && loan[0] == from) {
                if (loan[1] == to) {
                    return true;
                }
                if (!seen[loan[1]]) {
                    seen[loan[1]] = true;
                    if (comes(loan[1], to, seen)) {
                        return true;
                    }
                }
            }
        }
        return false;
    }

    // ---- the MARKET

    private int over(int price, int tax, int without) {
        int asked = 0;
        int offered = 0;
        for (int p : living()) {
            int need = people.get(p)[2];
            if (p == without) {
                continue;
            }
            if (now.age[p] > need) {
                offered += now.age[p] - need;
            } else if (now.age[p] < need) {
                for (int n = 1; n <= need - now.age[p] && n * (price + tax) <= now.coin[p]; n++) {
                    asked++;
                }
            }
        }
        return asked - offered;
    }

    private int resting(int tax, int without) {
        int best = 99;
        for (int price = 98; price >= 0; price--) {
            if (Math.abs(over(price, tax, without)) <= Math.abs(over(best, tax, without))) {
                best = price;
            }
        }
        return best;
    }

    private static boolean is99(int n) {
        return n >= 0 && n <= 99;
    }

    int market(int price, int tax) {
        return is99(price) && is99(tax) ? over(price, tax, NONE) : GAP;
    }

    int rests(int tax, int what) {
        if (!is99(tax) || what < 0 || what > 1) {
            return GAP;
        }
        int price = resting(tax, NONE);
        return what == 0 ? price : over(price, tax, NONE);
    }

    int corner(int p, int tax) {
        return isPerson(p) && now.alive[p] && is99(tax) ? resting(tax, NONE) - resting(tax, p) : GAP;
    }

    // ---- ODDS

    int safest() {
        List<Integer> living = living();
        int[] odds = new int[most + 1];
        for (int age = least; age <= most; age++) {
            odds[age] = oddsAt(age);
        }
        Map<Integer, int[]> memo = new HashMap<>();
        int years = sum(NONE);
        int together = spread(living.size(), years, odds, memo);
        lying = new int[people.size()];
        Arrays.fill(lying, NONE);
        int behind = living.size();
        for (int p : living) {
            lying[p] = memo.get(behind * 10000 + years)[1];
            years -= lying[p];
            behind--;
        }
        return together;
    }

    /** The fewest ODDS of so many with so many years, and the least age of the first of them, as found. */
    private int spread(int people, int years, int[] odds, Map<Integer, int[]> memo) {
        if (people == 0) {
            return years == 0 ? 0 : FAR;
        }
        if (years < people * least || years > people * most) {
            return FAR;
        }
        int key = people * 10000 + years;
        if (!memo.containsKey(key)) {
            int best = FAR;
            int bestAge = NONE;
            for (int age = least; age <= most; age++) {
                int all = spread(people - 1, years - age, odds, memo) + odds[age];
                if (all < best) {
                    best = all;
                    bestAge = age;
                }
            }
            memo.put(key, new int[] {best, bestAge});
        }
        return memo.get(key)[0];
    }

    boolean bends() {
        for (int age = least + 1; age <= most - 1; age++) {
            if (oddsAt(age) - oddsAt(age - 1) > oddsAt(age + 1) - oddsAt(age)) {
                return false;
            }
        }
        return true;
    }

    int twice(int right) {
        lying = new int[0];
        if (!isRight(right)) {
            return NONE;
        }
        int found = 0;
        for (int[] f : friends) {
            for (int n = 1; n <= 99; n++) {
                if (canGo(f[0], f[1], n) && has(f[0], right) == 1 && has(f[1], right) == 0
                    && would(f[1], right, now.age[f[1]] + n)) {
                    if (found == 0) {
                        lying = new int[] {f[0], f[1], n};
                    }
                    found++;
                    break;
                }
            }
        }
        return found;
    }

    int fair(int family) {
        lying = new int[0];
        if (family < 0 || family > 3) {
            return NONE;
        }
        List<Integer> members = new ArrayList<>(living());
        members.removeIf(p -> people.get(p)[3] != family);
        if (members.isEmpty()) {
            return 0;
        }
        List<Integer> inOrder = new ArrayList<>(members);
        inOrder.sort((p, q) -> Integer.compare(now.age[q], now.age[p]));
        Map<Integer, Integer> share = new HashMap<>();
        int years = sum(family);
        while (years > 0) {
            for (int p : inOrder) {
                if (years > 0) {
                    share.merge(p, 1, Integer::sum);
                    years--;
                }
            }
        }
        lying = members.stream().mapToInt(p -> share.getOrDefault(p, 0)).toArray();
        int moved = 0;
        for (int p : members) {
            moved += Math.abs(share.getOrDefault(p, 0) - now.age[p]);
        }
        return moved / 2;
    }

    int all(int p, int right) {
        lying = new int[0];
        if (!isPerson(p) || !now.alive[p] || !isRight(right)) {
            return NONE;
        }
        List<int[]> wants = new ArrayList<>();
        for (int[] f : friends) {
            if (f[0] == p && has(f[1], right) == 0 && now.alive[f[1]]) {
                for (int n = 1; now.age[f[1]] + n <= most; n++) {
                    if (would(f[1], right, now.age[f[1]] + n)) {
                        wants.add(new int[] {n, f[1]});
                        break;
                    }
                }
            }
        }
        wants.sort((a, b) -> a[0] != b[0] ? Integer.compare(a[0], b[0]) : Integer.compare(a[1], b[1]));
        int left = now.age[p] - least;
        List<Integer> served = new ArrayList<>();
        for (int[] want : wants) {
            if (want[0] <= left) {
                left -= want[0];
                served.add(want[1]);
            }
        }
        lying = served.stream().mapToInt(i -> i).toArray();
        return served.size();
    }

    // ---- FACES: {who, age, told, untold}

    int face(int p, int age) {
        if (!isPerson(p) || !isAge(age) || faces.size() == 30) {
            return NONE;
        }
        faces.add(new int[] {p, age, time, Integer.MAX_VALUE});
        return faces.size() - 1;
    }

    boolean untell(int face) {
        if (face < 0 || face >= faces.size() || faces.get(face)[3] != Integer.MAX_VALUE) {
            return false;
        }
        faces.get(face)[3] = time;
        return true;
    }

    int later(int by) {
        if (by < 0 || by > 1000 || time + by > 100000) {
            return NONE;
        }
        time += by;
        return time;
    }

    private boolean allSo(int[] ages, int k) {
        for (int[] face : faces) {
            if (face[2] <= k && !(face[3] <= k) && ages[face[0]] != face[1]) {
                return false;
            }
        }
        return true;
    }

    private int[] told() {
        return people.stream().mapToInt(p -> p[0]).toArray();
    }

    /** All rows of GIFTS by which all is so, those of fewer GIFTS first. */
    private List<int[]> explanations(int k) {
        List<int[]> all = new ArrayList<>();
        if (allSo(told(), k)) {
            all.add(new int[0]);
        }
        for (int f = 0; f < friends.size(); f++) {
            for (int n = 1; n <= 9; n++) {
                addIfSo(all, k, f, n);
            }
        }
        for (int f = 0; f < friends.size(); f++) {
            for (int n = 1; n <= 9; n++) {
                for (int g = f + 1; g < friends.size(); g++) {
                    for (int m = 1; m <= 9; m++) {
                        addIfSo(all, k, f, n, g, m);
                    }
                }
            }
        }
        return all;
    }

    private void addIfSo(List<int[]> all, int k, int... gifts) {
        if (allSo(behind(gifts), k)) {
            all.add(gifts);
        }
    }

    private int[] behind(int[] gifts) {
        int[] ages = told();
        for (int i = 0; i < gifts.length; i += 2) {
            ages[friends.get(gifts[i])[0]] -= gifts[i + 1];
            ages[friends.get(gifts[i])[1]] += gifts[i + 1];
        }
        return ages;
    }

    int explained(int k) {
        List<int[]> all = explanations(k);
        lying = all.isEmpty() ? new int[0] : all.get(0);
        return all.size();
    }

    int sure(int p, int k) {
        List<int[]> all = explanations(k);
        if (!isPerson(p) || all.isEmpty()) {
            return NONE;
        }
        int age = behind(all.get(0))[p];
        for (int[] gifts : all) {
            if (behind(gifts)[p] != age) {
                return -2;
            }
        }
        return age;
    }

    int forged(int k) {
        int bits = 0;
        if (allSo(told(), k)) {
            return 0;
        }
        for (int p = 0; p < people.size(); p++) {
            for (int age = least; age <= most; age++) {
                int[] ages = told();
                ages[p] = age;
                if (allSo(ages, k)) {
                    bits |= 1 << p;
                }
            }
        }
        return bits;
    }

    int about(int what, int bytes, int units) {
        int alive = 0;
        for (int p : living()) {
            alive |= 1 << p;
        }
        int[] all = {people.size(), friends.size(), rights.size(), least, most, now.year, now.seed, alive,
            now.loans.size(), now.defaults, before.size(), after.size(), targets.size(), faces.size(), time, bytes,
            units, lying.length};
        return what >= 0 && what < all.length ? all[what] : NONE;
    }
}
