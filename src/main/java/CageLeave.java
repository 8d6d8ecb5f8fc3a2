/** A park that lets its beasts out for the week-end; README.md tells how it is used. */
public final class CageLeave {

    public static final int NONE = -1;

    private static final int MOST_PLACES = 6;
    private static final int MOST_TRAINS = 8;
    private static final int MOST_BEASTS = 8;
    private static final int LAST_HOUR = 64;
    private static final int LAST_WEEK = 999;
    private static final int LAST_SEED = 9999;
    private static final int MOST_MARKS = 3;
    private static final int MOST_WEEKS_BYTES = 300;
    private static final int MOST_SEEDS = 20;
    private static final int MOST_THREES = 20;
    private static final int MOST_SLIPS = 20;
    private static final int MOST_ROOM_SIZE = 72;
    private static final int MOST_ROOMS = 8;
    private static final int SIXTEEN = 16;
    private static final int RIDES = 10;

    private static final int FINE = 0;
    private static final int NO_SUCH = 1;
    private static final int MISSING = 2;
    private static final int TOO_SHORT = 3;
    private static final int TOO_MANY = 4;
    private static final int BAD_NUMBER = 5;
    private static final int NOT_THERE = 6;
    private static final int CANNOT_BE = 7;
    private static final int UNLIKE = 8;
    private static final int FAULTY = 9;

    private int status = FINE;
    private long top = 0;
    private long bottom = 1;
    private final Trays trays = new Trays();
    private final Text text = new Text();
    private final ParkReader parkReader = new ParkReader(text);
    private final WeeksReader weeksReader = new WeeksReader(text);
    private final Plan plan = new Plan();
    private final Now now = new Now();
    private final Weeks weeks = new Weeks();
    private final Plan[] keptPlans = new Plan[MOST_MARKS];
    private final Now[] keptNows = new Now[MOST_MARKS];
    private final Weeks[] keptWeeks = new Weeks[MOST_MARKS];
    private int marks = 0;
    private final Now trial = new Now();
    private final Ways ways = new Ways();
    private final Rooms shelter = new Rooms();
    private final Parrot parrot = new Parrot();
    private final Life life = new Life();
    private final Life guess = new Life();

    public CageLeave() {
        for (int i = 0; i < MOST_MARKS; i++) {
            keptPlans[i] = new Plan();
            keptNows[i] = new Now();
            keptWeeks[i] = new Weeks();
        }
    }

    public int status() {
        return status;
    }

    public long top() {
        return top;
    }

    public long bottom() {
        return bottom;
    }

    // ---- TRAYS

    public boolean tray(int tray, int sort, int many) {
        if (!Trays.isTray(tray) || sort < 0 || sort > 3 || many < 0 || many > Trays.LONGEST) {
            return deny(NO_SUCH);
        }
        trays.lay(tray, sort, many);
        return allow();
    }

    public boolean write(int tray, int place, long v) {
        int why = trays.whyNotAt(tray, place);
        if (why != FINE) {
            return deny(why);
        }
        trays.put(tray, place, v);
        return allow();
    }

    public long read(int tray, int place) {
        int why = trays.whyNotAt(tray, place);
        if (why != FINE) {
            return refuse(why);
        }
        status = FINE;
        return trays.row[tray][place];
    }

    public boolean pour(int from, int place, int to, int at, int many) {
        if (!Trays.isTray(from) || !Trays.isTray(to) || place < 0 || at < 0 || many < 0) {
            return deny(NO_SUCH);
        }
        if (trays.isMissing(from) || trays.isMissing(to)) {
            return deny(MISSING);
        }
        if (trays.sort[from] != trays.sort[to]) {
            return deny(UNLIKE);
        }
        if (!trays.hasRun(from, place, many) || !trays.hasRun(to, at, many)) {
            return deny(TOO_SHORT);
        }
        System.arraycopy(trays.row[from], place, trays.row[to], at, many);
        return allow();
    }

    // ---- texts

    public int feed(int a, int b, int c, int d, int e) {
        if (text.fed + 20 > Text.LONGEST) {
            return NONE;
        }
        text.add(a);
        text.add(b);
        text.add(c);
        text.add(d);
        text.add(e);
        return text.fed;
    }

    public int park(int n) {
        if (n < 0 || n > text.fed) {
            return refuse(NO_SUCH);
        }
        boolean taken = parkReader.takesAll(n);
        text.fed = 0;
        if (!taken) {
            return refuse(FAULTY);
        }
        plan.copyFrom(parkReader.plan);
        now.copyFrom(parkReader.now);
        weeks.forget();
        return answer(plan.beasts);
    }

    public int weeks(int n) {
        if (n < 0 || n > text.fed || n > MOST_WEEKS_BYTES) {
            return refuse(NO_SUCH);
        }
        boolean taken = weeksReader.takesAll(n, plan);
        text.fed = 0;
        if (!taken) {
            return refuse(FAULTY);
        }
        weeks.copyFrom(weeksReader.weeks);
        return answer(weeks.steps);
    }

    public int fault(int what) {
        if (what == 0) {
            return text.fault;
        }
        return what == 1 ? text.faultAt : NONE;
    }

    public int told(int what) {
        switch (what) {
            case 0: return answer(plan.places);
            case 1: return answer(plan.trains);
            case 2: return answer(plan.beasts);
            case 3: return answer(plan.odds);
            case 4: return answer(now.week);
            case 5: return answer(now.hour);
            case 6: return answer(now.out);
            case 7: return answer(now.eaten);
            case 8: return answer(now.riders());
            case 9: return answer(now.halted);
            case 10: return answer(now.lateInAll());
            default: return refuse(NO_SUCH);
        }
    }

    public int train(int train, int what) {
        if (!isTrain(train)) {
            return refuse(NO_SUCH);
        }
        switch (what) {
            case 0: return answer(plan.from[train]);
            case 1: return answer(plan.to[train]);
            case 2: return answer(plan.at[train]);
            case 3: return answer(plan.takes[train]);
            case 4: return answer(plan.seats[train]);
            case 5: return answer(now.halted >> train & 1);
            case 6: return answer(now.onTrain[train]);
            default: return refuse(NO_SUCH);
        }
    }

    public int beast(int beast, int what) {
        if (!isBeast(beast)) {
            return refuse(NO_SUCH);
        }
        switch (what) {
            case 0: return answer(plan.size[beast]);
            case 1: return answer(plan.trust[beast]);
            case 2: return answer(now.out >> beast & 1);
            case 3: return answer(now.eaten >> beast & 1);
            case 4: return answer(now.late[beast]);
            case 5: return answer(now.tickets[beast]);
            case 6: return answer(plan.hunts[beast]);
            default: return refuse(NO_SUCH);
        }
    }

    public int at(int beast) {
        if (!isBeast(beast)) {
            return refuse(NO_SUCH);
        }
        if (now.isEaten(beast)) {
            return refuse(NOT_THERE);
        }
        return answer(now.spotOf(plan, beast));
    }

    public int there(int place) {
        if (!isPlace(place)) {
            return refuse(NO_SUCH);
        }
        return answer(now.inPlace[place]);
    }

    public int together(int beast, int other) {
        if (!areTwoBeasts(beast, other)) {
            return refuse(NO_SUCH);
        }
        return answer(now.hasTogether(plan, beast, other) ? 1 : 0);
    }

    // ---- what is done

    public int hour(int many) {
        if (many < 1 || many > LAST_HOUR) {
            return refuse(NO_SUCH);
        }
        if (now.hour + many > LAST_HOUR) {
            return refuse(TOO_MANY);
        }
        return answer(now.passUntil(plan, now.hour + many));
    }

    public int monday() {
        if (now.week >= LAST_WEEK) {
            return refuse(TOO_MANY);
        }
        if (now.hour < LAST_HOUR) {
            return refuse(CANNOT_BE);
        }
        return answer(now.fetchAll(plan));
    }

    public boolean ticket(int beast, int train, boolean has) {
        if (!isBeast(beast) || !isTrain(train)) {
            return deny(NO_SUCH);
        }
        if (now.isEaten(beast) || isIn(now.tickets[beast], train) == has) {
            return deny(CANNOT_BE);
        }
        now.turnTicket(beast, train);
        return allow();
    }

    public boolean let(int beast, boolean out) {
        if (!isBeast(beast)) {
            return deny(NO_SUCH);
        }
        if (now.isEaten(beast) || isIn(now.out, beast) == out) {
            return deny(CANNOT_BE);
        }
        now.turnOut(beast);
        return allow();
    }

    public boolean halt(int train, boolean is) {
        if (!isTrain(train)) {
            return deny(NO_SUCH);
        }
        if (isIn(now.halted, train) == is) {
            return deny(CANNOT_BE);
        }
        now.turnHalt(train);
        return allow();
    }

    public boolean trust(int beast, int much) {
        if (!isBeast(beast) || much < 0 || much > SIXTEEN) {
            return deny(NO_SUCH);
        }
        plan.trust[beast] = much;
        return allow();
    }

    public boolean shift(int train, int hour) {
        if (!isTrain(train) || hour < 0 || hour >= LAST_HOUR) {
            return deny(NO_SUCH);
        }
        if (now.onTrain[train] != 0) {
            return deny(CANNOT_BE);
        }
        plan.at[train] = hour;
        return allow();
    }

    public boolean hunt(int beast, int other, boolean is) {
        if (!areTwoBeasts(beast, other)) {
            return deny(NO_SUCH);
        }
        if (isIn(plan.hunts[beast], other) == is) {
            return deny(CANNOT_BE);
        }
        plan.hunts[beast] ^= 1 << other;
        return allow();
    }

    public boolean mourn(int beast) {
        if (!isBeast(beast)) {
            return deny(NO_SUCH);
        }
        if (!now.isEaten(beast)) {
            return deny(CANNOT_BE);
        }
        now.eaten &= ~(1 << beast);
        now.inPlace[0] |= 1 << beast;
        return allow();
    }

    public boolean rule(int odds) {
        if (odds < 0 || odds > SIXTEEN) {
            return deny(NO_SUCH);
        }
        plan.odds = odds;
        return allow();
    }

    // ---- what would be

    public int where(int beast, int hour) {
        if (!isBeast(beast) || hour < now.hour || hour > LAST_HOUR) {
            return refuse(NO_SUCH);
        }
        goOnUntil(hour);
        if (trial.isEaten(beast)) {
            return refuse(NOT_THERE);
        }
        return answer(trial.spotOf(plan, beast));
    }

    public int eatenAt(int beast) {
        int why = whyNotEatenYet(beast);
        return why == FINE ? answer(trial.eatenAt[beast]) : refuse(why);
    }

    public int eater(int beast) {
        int why = whyNotEatenYet(beast);
        return why == FINE ? answer(trial.eater[beast]) : refuse(why);
    }

    public int meet(int beast, int other) {
        if (!areTwoBeasts(beast, other)) {
            return refuse(NO_SUCH);
        }
        trial.copyFrom(now);
        for (int t = now.hour; t <= LAST_HOUR; t++) {
            trial.passUntil(plan, t);
            if (trial.hasTogether(plan, beast, other)) {
                return answer(t);
            }
        }
        return refuse(NOT_THERE);
    }

    public int lateBy() {
        goOnUntil(LAST_HOUR);
        return answer(trial.fetchAll(plan));
    }

    public int peace(int beasts) {
        int why = whyNotLetOut(beasts);
        return why == FINE ? answer(eatenOutside(beasts) == 0 ? 1 : 0) : refuse(why);
    }

    public int eatenBy(int beasts) {
        int why = whyNotLetOut(beasts);
        return why == FINE ? answer(eatenOutside(beasts)) : refuse(why);
    }

    public int most() {
        int best = 0;
        for (int set = 0; set < 1 << plan.beasts; set++) {
            boolean greater = Integer.bitCount(set) > Integer.bitCount(best);
            if (greater && (set & now.eaten) == 0 && eatenOutside(set) == 0) {
                best = set;
            }
        }
        return answer(best);
    }

    public int soonest(int place, int hour, int to) {
        if (!isPlace(place) || !isPlace(to) || hour < 0 || hour >= LAST_HOUR) {
            return refuse(NO_SUCH);
        }
        ways.order(plan);
        int soon = ways.soon(plan, now.halted, place, hour, to);
        return soon > LAST_HOUR ? refuse(NOT_THERE) : answer(soon);
    }

    public int soonestBy(int place, int hour, int to) {
        if (!isPlace(place) || !isPlace(to) || hour < 0 || hour >= LAST_HOUR) {
            return refuse(NO_SUCH);
        }
        if (place == to) {
            return refuse(CANNOT_BE);
        }
        ways.order(plan);
        int train = ways.firstTrain(plan, now.halted, place, hour, to);
        return train == NONE ? refuse(NOT_THERE) : answer(train);
    }

    public int latest(int place, int to, int by) {
        if (!isPlace(place) || !isPlace(to) || by < 0 || by > LAST_HOUR) {
            return refuse(NO_SUCH);
        }
        if (place == to) {
            return answer(by);
        }
        ways.order(plan);
        int last = ways.lastStart(plan, now.halted, place, to, by);
        return last == NONE ? refuse(NOT_THERE) : answer(last);
    }

    public int stay(int place) {
        if (!isPlace(place) || place == 0) {
            return refuse(NO_SUCH);
        }
        ways.order(plan);
        int comes = ways.soon(plan, now.halted, 0, 0, place);
        int leaves = ways.lastStart(plan, now.halted, place, 0, LAST_HOUR);
        // Who can't come at all comes at an HOUR behind the last one, so leaves ahead of it.
        return leaves < comes ? refuse(NOT_THERE) : answer(leaves - comes);
    }

    public int reach() {
        if (plan.places == 0) {
            return refuse(NOT_THERE);
        }
        ways.order(plan);
        ways.setOut(plan, now.halted, 0, 0);
        int set = 0;
        for (int place = 0; place < plan.places; place++) {
            if (ways.there[place] <= LAST_HOUR) {
                set |= 1 << place;
            }
        }
        return answer(set);
    }

    public int cut(int place) {
        if (!isPlace(place) || place == 0) {
            return refuse(NO_SUCH);
        }
        return answer(Integer.bitCount(leastCut(place)));
    }

    public int cutSet(int place) {
        if (!isPlace(place) || place == 0) {
            return refuse(NO_SUCH);
        }
        return answer(leastCut(place));
    }

    public boolean snow(int place) {
        if (!isPlace(place)) {
            return deny(NO_SUCH);
        }
        ways.order(plan);
        int going = plan.trains - Integer.bitCount(now.halted);
        long sum = 0;
        for (int stopped = 0; stopped < 1 << plan.trains; stopped++) {
            if ((stopped & now.halted) == 0
                    && ways.soon(plan, now.halted | stopped, 0, 0, place) <= LAST_HOUR) {
                int many = Integer.bitCount(stopped);
                sum += power(plan.odds, many) * power(SIXTEEN - plan.odds, going - many);
            }
        }
        return tellFraction(sum, power(SIXTEEN, going));
    }

    public boolean back(int beasts, int k) {
        if (!isSet(beasts) || k < 0 || k > MOST_BEASTS) {
            return deny(NO_SUCH);
        }
        long sum = 0;
        for (int home = 0; home <= beasts; home++) {
            if ((home & ~beasts) == 0 && Integer.bitCount(home) >= k) {
                sum += chancesOf(beasts, home);
            }
        }
        return tellFraction(sum, power(SIXTEEN, Integer.bitCount(beasts)));
    }

    public int wildest(int beasts) {
        if (!isSet(beasts)) {
            return refuse(NO_SUCH);
        }
        int best = NONE;
        for (int b = 0; b < plan.beasts; b++) {
            if (isIn(beasts, b) && (best == NONE || plan.trust[b] < plan.trust[best])) {
                best = b;
            }
        }
        return best == NONE ? refuse(NOT_THERE) : answer(best);
    }

    public int rooms(int beasts, int size) {
        if (!isSet(beasts) || size < 1 || size > MOST_ROOM_SIZE) {
            return refuse(NO_SUCH);
        }
        shelter.weigh(plan);
        int fewest = shelter.fewest(beasts, size);
        return fewest > MOST_ROOMS ? refuse(NOT_THERE) : answer(fewest);
    }

    public int roomSize(int beasts, int many) {
        if (!isSet(beasts) || many < 1 || many > MOST_ROOMS) {
            return refuse(NO_SUCH);
        }
        shelter.weigh(plan);
        int low = 1;
        int high = MOST_ROOM_SIZE + 1;
        // Greater rooms never make more of them needed, so the sizes can be halved.
        for (int i = 0; i < 8 && low < high; i++) {
            int middle = (low + high) / 2;
            if (shelter.fewest(beasts, middle) <= many) {
                high = middle;
            } else {
                low = middle + 1;
            }
        }
        return low > MOST_ROOM_SIZE ? refuse(NOT_THERE) : answer(low);
    }

    public int sets(int tray, int n, int slips) {
        int why = whyNotHeard(tray, n, slips);
        if (why != FINE) {
            return refuse(why);
        }
        int many = 0;
        for (int set = 0; set < 1 << plan.beasts; set++) {
            if (fitsParrot(set, slips)) {
                many++;
            }
        }
        return answer(many);
    }

    public int sure(int tray, int n, int slips) {
        int why = whyNotHeard(tray, n, slips);
        if (why != FINE) {
            return refuse(why);
        }
        boolean any = false;
        int all = (1 << plan.beasts) - 1;
        for (int set = 0; set < 1 << plan.beasts; set++) {
            if (fitsParrot(set, slips)) {
                any = true;
                all &= set;
            }
        }
        return any ? answer(all) : refuse(NOT_THERE);
    }

    public int slips(int tray, int n) {
        int why = whyNotHeard(tray, n, 0);
        if (why != FINE) {
            return refuse(why);
        }
        int fewest = n;
        for (int set = 0; set < 1 << plan.beasts; set++) {
            if ((set & now.eaten) == 0) {
                fewest = Math.min(fewest, parrot.slipsIf(plan, now, trial, set));
            }
        }
        return answer(fewest);
    }

    public int copyPlaces(int tray) {
        int why = trays.whyNotLong(tray, plan.beasts);
        if (why != FINE) {
            return refuse(why);
        }
        for (int b = 0; b < plan.beasts; b++) {
            trays.put(tray, b, now.spotOf(plan, b));
        }
        return answer(plan.beasts);
    }

    // ---- WEEKS

    public int live(int seed) {
        if (seed < 0 || seed > LAST_SEED) {
            return refuse(NO_SUCH);
        }
        if (!weeks.told) {
            return refuse(NOT_THERE);
        }
        life.run(plan, now, weeks, seed);
        return answer(life.steps);
    }

    public int lived(int what) {
        if (what < 0 || what >= Life.COUNTS) {
            return refuse(NO_SUCH);
        }
        return life.steps == NONE ? refuse(NOT_THERE) : answer(life.count[what]);
    }

    public boolean mean(int seed, int many) {
        if (seed < 0 || many < 1 || many > MOST_SEEDS || seed > LAST_SEED - (many - 1)) {
            return deny(NO_SUCH);
        }
        if (!weeks.told) {
            return deny(NOT_THERE);
        }
        long sum = 0;
        for (int i = 0; i < many; i++) {
            trial.copyFrom(now);
            guess.run(plan, trial, weeks, seed + i);
            sum += Integer.bitCount(trial.eaten);
        }
        return tellFraction(sum, many);
    }

    // ---- MARKS

    public int mark() {
        if (marks >= MOST_MARKS) {
            return refuse(TOO_MANY);
        }
        keptPlans[marks].copyFrom(plan);
        keptNows[marks].copyFrom(now);
        keptWeeks[marks].copyFrom(weeks);
        marks++;
        return answer(marks);
    }

    public int undo() {
        if (marks <= 0) {
            return refuse(NOT_THERE);
        }
        marks--;
        plan.copyFrom(keptPlans[marks]);
        now.copyFrom(keptNows[marks]);
        weeks.copyFrom(keptWeeks[marks]);
        return answer(marks);
    }

    // ---- what the calls share

    private int answer(int v) {
        status = FINE;
        return v;
    }

    private int refuse(int why) {
        status = why;
        return NONE;
    }

    private boolean allow() {
        status = FINE;
        return true;
    }

    private boolean deny(int why) {
        status = why;
        return false;
    }

    private boolean tellFraction(long above, long below) {
        long divisor = commonDivisor(above, below);
        if (divisor > 0) {
            top = above / divisor;
            bottom = below / divisor;
        }
        return allow();
    }

    private static long commonDivisor(long a, long b) {
        // Every second turn halves the greater number at least, so 200 turns are more than enough.
        for (int i = 0; i < 200 && b != 0; i++) {
            long rest = a % b;
            a = b;
            b = rest;
        }
        return a;
    }

    private static long power(long base, int many) {
        long product = 1;
        for (int i = 0; i < many; i++) {
            product *= base;
        }
        return product;
    }

    private static boolean isIn(int set, int one) {
        return (set >> one & 1) != 0;
    }

    private boolean isPlace(int place) {
        return place >= 0 && place < plan.places;
    }

    private boolean isTrain(int train) {
        return train >= 0 && train < plan.trains;
    }

    private boolean isBeast(int beast) {
        return beast >= 0 && beast < plan.beasts;
    }

    private boolean areTwoBeasts(int beast, int other) {
        return isBeast(beast) && isBeast(other) && beast != other;
    }

    private boolean isSet(int beasts) {
        return beasts >= 0 && beasts < 1 << plan.beasts;
    }

    /** Leaves in the trial how all is at an HOUR if nothing else is done. */
    private void goOnUntil(int hour) {
        trial.copyFrom(now);
        trial.passUntil(plan, hour);
    }

    /** The STATUS of asking how a BEAST is EATEN; the trial has gone on to the end then. */
    private int whyNotEatenYet(int beast) {
        if (!isBeast(beast)) {
            return NO_SUCH;
        }
        if (now.isEaten(beast)) {
            return NOT_THERE;
        }
        goOnUntil(LAST_HOUR);
        return trial.isEaten(beast) ? FINE : NOT_THERE;
    }

    private int whyNotLetOut(int beasts) {
        if (!isSet(beasts)) {
            return NO_SUCH;
        }
        return (beasts & now.eaten) != 0 ? CANNOT_BE : FINE;
    }

    private int eatenOutside(int beasts) {
        trial.letOut(plan, now, beasts);
        return trial.passUntil(plan, LAST_HOUR);
    }

    private int leastCut(int place) {
        ways.order(plan);
        int best = NONE;
        for (int more = 0; more < 1 << plan.trains; more++) {
            boolean fewer = best == NONE || Integer.bitCount(more) < Integer.bitCount(best);
            if (fewer && (more & now.halted) == 0
                    && ways.soon(plan, now.halted | more, 0, 0, place) > LAST_HOUR) {
                best = more;
            }
        }
        return best;
    }

    /** How many of all the sixteenths let just these of a set come back. */
    private long chancesOf(int beasts, int home) {
        long product = 1;
        for (int b = 0; b < plan.beasts; b++) {
            if (isIn(beasts, b)) {
                product *= isIn(home, b) ? plan.trust[b] : SIXTEEN - plan.trust[b];
            }
        }
        return product;
    }

    /** The STATUS of asking the PARROT; it knows the threes then. */
    private int whyNotHeard(int tray, int n, int slips) {
        if (!Trays.isTray(tray) || n < 0 || n > MOST_THREES || slips < 0 || slips > MOST_SLIPS) {
            return NO_SUCH;
        }
        int why = trays.whyNotLong(tray, 3 * n);
        if (why != FINE) {
            return why;
        }
        return parrot.hears(plan, trays.row[tray], n) ? FINE : BAD_NUMBER;
    }

    private boolean fitsParrot(int set, int slips) {
        return (set & now.eaten) == 0 && parrot.slipsIf(plan, now, trial, set) <= slips;
    }

    /** The four rows of numbers. */
    private static final class Trays {
        static final int TRAYS = 4;
        static final int LONGEST = 60;

        final long[][] row = new long[TRAYS][LONGEST];
        final int[] sort = new int[TRAYS];
        final int[] many = new int[TRAYS];

        Trays() {
            for (int i = 0; i < TRAYS; i++) {
                sort[i] = NONE;
            }
        }

        static boolean isTray(int tray) {
            return tray >= 0 && tray < TRAYS;
        }

        boolean isMissing(int tray) {
            return sort[tray] == NONE;
        }

        void lay(int tray, int newSort, int newMany) {
            sort[tray] = newSort;
            many[tray] = newMany;
            for (int i = 0; i < LONGEST; i++) {
                row[tray][i] = 0;
            }
        }

        /** The STATUS of asking a TRAY for so many numbers. */
        int whyNotLong(int tray, int numbers) {
            if (!isTray(tray)) {
                return NO_SUCH;
            }
            if (isMissing(tray)) {
                return MISSING;
            }
            return numbers > many[tray] ? TOO_SHORT : FINE;
        }

        /** The STATUS of asking a TRAY for a place. */
        int whyNotAt(int tray, int place) {
            int why = whyNotLong(tray, 0);
            if (why != FINE) {
                return why;
            }
            return place < 0 || place >= many[tray] ? TOO_SHORT : FINE;
        }

        boolean hasRun(int tray, int place, int numbers) {
            return (long) place + numbers <= many[tray];
        }

        void put(int tray, int place, long v) {
            switch (sort[tray]) {
                case 0: row[tray][place] = (byte) v; break;
                case 1: row[tray][place] = (short) v; break;
                case 2: row[tray][place] = (int) v; break;
                default: row[tray][place] = v;
            }
        }
    }

    /** The tape, and the TOKENS of a text on it, one at a time; the first FAULT stays. */
    private static final class Text {
        static final int LONGEST = 900;
        static final int LONGEST_NAME = 8;
        static final int LONGEST_NUMBER = 4;

        static final int THE_END = 0;
        static final int KEYWORD = 1;
        static final int NAME = 2;
        static final int LONG_WORD = 3;
        static final int NUMBER = 4;
        static final int SIGN = 5;
        static final int NOTHING = 6;

        static final int ODDS = 0;
        static final int PLACE = 1;
        static final int TRAIN = 2;
        static final int FROM = 3;
        static final int TO = 4;
        static final int AT = 5;
        static final int TAKES = 6;
        static final int SEATS = 7;
        static final int BEAST = 8;
        static final int SIZE = 9;
        static final int TRUST = 10;
        static final int OUT = 11;
        static final int HUNTS = 12;
        static final int TICKET = 13;
        static final int HOUR = 14;
        static final int MONDAY = 15;
        static final int BUY = 16;
        static final int LET = 17;
        static final int HALT = 18;
        static final int ANY = 19;
        static final int WHEN = 20;
        static final int IN = 21;
        static final int EATEN = 22;
        static final int CLOCK = 23;
        static final int LOOP = 24;
        static final int END = 25;
        static final int STOP = 26;
        static final int KEYWORDS = 27;
        /** In the order of the numbers above, each to a blank. */
        static final String WORDS = "odds place train from to at takes seats beast size trust out hunts ticket hour monday buy let halt any when in eaten clock loop end stop ";

        final byte[] bytes = new byte[LONGEST];
        int fed = 0;
        int fault = NONE;
        int faultAt = NONE;
        /** Of the TOKEN that is looked at. */
        int kind = NOTHING;
        int start = 0;
        int value = 0;
        long name = 0;
        private int length = 0;
        private int next = 0;
        private final long[] keyword = new long[KEYWORDS];

        Text() {
            int from = 0;
            int k = 0;
            for (int i = 0; i < WORDS.length() && k < KEYWORDS; i++) {
                if (WORDS.charAt(i) == ' ') {
                    long code = 0;
                    for (int j = from; j < i; j++) {
                        code = withLetter(code, WORDS.charAt(j));
                    }
                    keyword[k] = code;
                    k++;
                    from = i + 1;
                }
            }
        }

        /** A word of up to 8 letters is told by a number: 5 bits a letter. */
        private static long withLetter(long code, int letter) {
            return code << 5 | letter - 'a' + 1;
        }

        void add(int four) {
            for (int shift = 24; shift >= 0 && fed < LONGEST; shift -= 8) {
                bytes[fed] = (byte) (four >> shift);
                fed++;
            }
        }

        void open(int n) {
            length = n;
            next = 0;
            fault = 0;
            faultAt = NONE;
            advance();
        }

        /** The word, not a NAME, at which the text is; NONE at other TOKENS. */
        int wordAt() {
            return kind == KEYWORD ? value : NONE;
        }

        boolean isAt(int word) {
            return kind == KEYWORD && value == word;
        }

        /** Tells a FAULT of the TOKEN that is looked at, if there is none ahead of it. */
        void fail(int why) {
            if (fault == 0) {
                fault = why;
                faultAt = start;
            }
            kind = NOTHING;
        }

        void passWord(int word) {
            if (isAt(word)) {
                advance();
            } else {
                fail(2);
            }
        }

        void passSign(char sign) {
            if (kind == SIGN && value == sign) {
                advance();
            } else {
                fail(2);
            }
        }

        int passNumber(int least, int most) {
            if (kind != NUMBER) {
                fail(2);
                return NONE;
            }
            int number = value;
            if (number < least || number > most) {
                fail(4);
                return NONE;
            }
            advance();
            return number;
        }

        /** Looks at the next TOKEN. Behind a FAULT there is none. */
        void advance() {
            if (fault != 0) {
                return;
            }
            while (next < length && isBlank(bytes[next])) {
                next++;
            }
            start = next;
            if (next >= length) {
                kind = THE_END;
                return;
            }
            int first = bytes[next];
            if (isLetter(first)) {
                lookAtWord();
            } else if (isDigit(first)) {
                lookAtNumber();
            } else if (first == ';' || first == '<' || first == '>' || first == '=') {
                kind = SIGN;
                value = first;
                next++;
            } else {
                fail(1);
            }
        }

        private void lookAtWord() {
            long code = 0;
            while (next < length && isLetter(bytes[next])) {
                if (next - start < LONGEST_NAME) {
                    code = withLetter(code, bytes[next]);
                }
                next++;
            }
            if (next - start > LONGEST_NAME) {
                kind = LONG_WORD;
                return;
            }
            kind = NAME;
            name = code;
            for (int k = 0; k < KEYWORDS; k++) {
                if (keyword[k] == code) {
                    kind = KEYWORD;
                    value = k;
                }
            }
        }

        private void lookAtNumber() {
            int number = 0;
            while (next < length && isDigit(bytes[next])) {
                if (next - start < LONGEST_NUMBER) {
                    number = number * 10 + (bytes[next] - '0');
                }
                next++;
            }
            if (next - start > LONGEST_NUMBER) {
                fail(1);
                return;
            }
            kind = NUMBER;
            value = number;
        }

        private static boolean isBlank(int b) {
            return b == 10 || b == 32;
        }

        private static boolean isLetter(int b) {
            return b >= 'a' && b <= 'z';
        }

        private static boolean isDigit(int b) {
            return b >= '0' && b <= '9';
        }
    }

    /** What a PARK's text tells, and what is set in it later: all that does not go by HOURS. */
    private static final class Plan {
        static final int MOST_NAMES = MOST_PLACES + MOST_TRAINS + MOST_BEASTS;

        int places = 0;
        int trains = 0;
        int beasts = 0;
        int odds = 2;
        int names = 0;
        final long[] name = new long[MOST_NAMES];
        /** Of what a NAME is (PLACE, TRAIN, BEAST as in Text), and its number. */
        final int[] nameOf = new int[MOST_NAMES];
        final int[] nameNumber = new int[MOST_NAMES];
        final int[] from = new int[MOST_TRAINS];
        final int[] to = new int[MOST_TRAINS];
        final int[] at = new int[MOST_TRAINS];
        final int[] takes = new int[MOST_TRAINS];
        final int[] seats = new int[MOST_TRAINS];
        final int[] size = new int[MOST_BEASTS];
        final int[] trust = new int[MOST_BEASTS];
        final int[] hunts = new int[MOST_BEASTS];

        void clear() {
            places = 0;
            trains = 0;
            beasts = 0;
            odds = 2;
            names = 0;
        }

        void copyFrom(Plan other) {
            places = other.places;
            trains = other.trains;
            beasts = other.beasts;
            odds = other.odds;
            names = other.names;
            System.arraycopy(other.name, 0, name, 0, MOST_NAMES);
            System.arraycopy(other.nameOf, 0, nameOf, 0, MOST_NAMES);
            System.arraycopy(other.nameNumber, 0, nameNumber, 0, MOST_NAMES);
            System.arraycopy(other.from, 0, from, 0, MOST_TRAINS);
            System.arraycopy(other.to, 0, to, 0, MOST_TRAINS);
            System.arraycopy(other.at, 0, at, 0, MOST_TRAINS);
            System.arraycopy(other.takes, 0, takes, 0, MOST_TRAINS);
            System.arraycopy(other.seats, 0, seats, 0, MOST_TRAINS);
            System.arraycopy(other.size, 0, size, 0, MOST_BEASTS);
            System.arraycopy(other.trust, 0, trust, 0, MOST_BEASTS);
            System.arraycopy(other.hunts, 0, hunts, 0, MOST_BEASTS);
        }

        boolean hasName(long code) {
            for (int i = 0; i < names; i++) {
                if (name[i] == code) {
                    return true;
                }
            }
            return false;
        }

        void addName(long code, int of, int number) {
            if (names < MOST_NAMES) {
                name[names] = code;
                nameOf[names] = of;
                nameNumber[names] = number;
                names++;
            }
        }

        /** The number of the PLACE, TRAIN or BEAST at whose NAME a text is; else a FAULT of it. */
        int numberAt(Text text, int of) {
            if (text.kind != Text.NAME) {
                text.fail(2);
                return NONE;
            }
            for (int i = 0; i < names; i++) {
                if (name[i] == text.name && nameOf[i] == of) {
                    return nameNumber[i];
                }
            }
            text.fail(3);
            return NONE;
        }

        /** The first of a set that HUNTS a BEAST. */
        int firstHunter(int set, int beast) {
            for (int b = 0; b < beasts; b++) {
                if ((set >> b & hunts[b] >> beast & 1) != 0) {
                    return b;
                }
            }
            return NONE;
        }
    }

    /** How all stands at an HOUR. The sets of PLACES and TRAINS hold nobody who is EATEN. */
    private static final class Now {
        int week = 0;
        int hour = 0;
        int out = 0;
        int eaten = 0;
        int halted = 0;
        final int[] tickets = new int[MOST_BEASTS];
        final int[] late = new int[MOST_BEASTS];
        final int[] inPlace = new int[MOST_PLACES];
        final int[] onTrain = new int[MOST_TRAINS];
        /** The HOUR at which those on a TRAIN arrive; told anew when somebody gets on. */
        final int[] due = new int[MOST_TRAINS];
        /** Of who is EATEN: by whom, when. */
        final int[] eater = new int[MOST_BEASTS];
        final int[] eatenAt = new int[MOST_BEASTS];

        void copyFrom(Now other) {
            week = other.week;
            hour = other.hour;
            out = other.out;
            eaten = other.eaten;
            halted = other.halted;
            System.arraycopy(other.tickets, 0, tickets, 0, MOST_BEASTS);
            System.arraycopy(other.late, 0, late, 0, MOST_BEASTS);
            System.arraycopy(other.inPlace, 0, inPlace, 0, MOST_PLACES);
            System.arraycopy(other.onTrain, 0, onTrain, 0, MOST_TRAINS);
            System.arraycopy(other.due, 0, due, 0, MOST_TRAINS);
            System.arraycopy(other.eater, 0, eater, 0, MOST_BEASTS);
            System.arraycopy(other.eatenAt, 0, eatenAt, 0, MOST_BEASTS);
        }

        /** Nobody is let OUT, EATEN or LATE, has TICKETS; all TRAINS go; WEEK 0, HOUR 0. */
        void clear(Plan plan) {
            week = 0;
            out = 0;
            eaten = 0;
            halted = 0;
            for (int b = 0; b < MOST_BEASTS; b++) {
                tickets[b] = 0;
                late[b] = 0;
            }
            cageAll(plan);
        }

        /** It is HOUR 0 and all who are not EATEN are in PLACE 0. */
        void cageAll(Plan plan) {
            hour = 0;
            for (int p = 0; p < MOST_PLACES; p++) {
                inPlace[p] = 0;
            }
            for (int k = 0; k < MOST_TRAINS; k++) {
                onTrain[k] = 0;
            }
            inPlace[0] = (1 << plan.beasts) - 1 & ~eaten;
        }

        void letOut(Plan plan, Now as, int set) {
            copyFrom(as);
            cageAll(plan);
            out = set;
        }

        boolean isEaten(int beast) {
            return isIn(eaten, beast);
        }

        int riders() {
            int set = 0;
            for (int k = 0; k < MOST_TRAINS; k++) {
                set |= onTrain[k];
            }
            return set;
        }

        int lateInAll() {
            int sum = 0;
            for (int b = 0; b < MOST_BEASTS; b++) {
                sum += late[b];
            }
            return sum;
        }

        /** The PLACE, or 10 and the TRAIN together, NONE of who is EATEN. */
        int spotOf(Plan plan, int beast) {
            for (int p = 0; p < plan.places; p++) {
                if (isIn(inPlace[p], beast)) {
                    return p;
                }
            }
            for (int k = 0; k < plan.trains; k++) {
                if (isIn(onTrain[k], beast)) {
                    return RIDES + k;
                }
            }
            return NONE;
        }

        boolean hasTogether(Plan plan, int beast, int other) {
            int spot = spotOf(plan, beast);
            return spot > 0 && spot == spotOf(plan, other);
        }

        void turnTicket(int beast, int train) {
            tickets[beast] ^= 1 << train;
        }

        void turnOut(int beast) {
            out ^= 1 << beast;
        }

        void turnHalt(int train) {
            halted ^= 1 << train;
        }

        /** HOURS go by until it is a later one; answers who is EATEN in them. */
        int passUntil(Plan plan, int end) {
            int before = eaten;
            int first = hour;
            for (int t = first; t < end; t++) {
                // Where nobody moves, nobody is EATEN who was not in the HOUR ahead of it.
                if (t == first || isBusy(plan)) {
                    arrive(plan);
                    depart(plan);
                    feast(plan);
                }
                hour = t + 1;
            }
            return eaten & ~before;
        }

        private boolean isBusy(Plan plan) {
            for (int k = 0; k < plan.trains; k++) {
                if (plan.at[k] == hour || onTrain[k] != 0 && due[k] == hour) {
                    return true;
                }
            }
            return false;
        }

        private void arrive(Plan plan) {
            for (int k = 0; k < plan.trains; k++) {
                if (onTrain[k] != 0 && due[k] == hour) {
                    inPlace[plan.to[k]] |= onTrain[k];
                    onTrain[k] = 0;
                }
            }
        }

        private void depart(Plan plan) {
            for (int k = 0; k < plan.trains; k++) {
                if (plan.at[k] == hour && !isIn(halted, k)) {
                    board(plan, k);
                }
            }
        }

        private void board(Plan plan, int train) {
            int from = plan.from[train];
            int may = from == 0 ? inPlace[from] & out : inPlace[from];
            int seats = plan.seats[train];
            for (int b = 0; b < plan.beasts && seats > 0; b++) {
                if (isIn(may, b) && isIn(tickets[b], train)) {
                    inPlace[from] &= ~(1 << b);
                    onTrain[train] |= 1 << b;
                    due[train] = hour + plan.takes[train];
                    seats--;
                }
            }
        }

        private void feast(Plan plan) {
            for (int p = 1; p < plan.places; p++) {
                inPlace[p] = leftBy(plan, inPlace[p]);
            }
            for (int k = 0; k < plan.trains; k++) {
                onTrain[k] = leftBy(plan, onTrain[k]);
            }
        }

        /** Who of those at one spot is not EATEN there. Spots do not touch each other. */
        private int leftBy(Plan plan, int group) {
            int left = group;
            if ((group & group - 1) == 0) {
                return left;
            }
            for (int b = 0; b < plan.beasts; b++) {
                int hunter = isIn(left, b) ? plan.firstHunter(left, b) : NONE;
                if (hunter != NONE) {
                    left &= ~(1 << b);
                    eaten |= 1 << b;
                    eater[b] = hunter;
                    eatenAt[b] = hour;
                }
            }
            return left;
        }

        /** A MONDAY at HOUR 64; answers who is LATE. */
        int fetchAll(Plan plan) {
            arrive(plan);
            int set = (1 << plan.beasts) - 1 & ~eaten & ~inPlace[0];
            for (int b = 0; b < plan.beasts; b++) {
                if (isIn(set, b)) {
                    late[b]++;
                }
            }
            cageAll(plan);
            week++;
            return set;
        }
    }

    /** WEEKS as a row of STEPS and ends. A when is told by the word of its TEST. */
    private static final class Weeks {
        static final int MOST_STEPS = 30;
        static final int MOST_ROWS = 2 * MOST_STEPS;

        boolean told = false;
        int steps = 0;
        int rows = 0;
        final int[] word = new int[MOST_ROWS];
        final int[] first = new int[MOST_ROWS];
        final int[] second = new int[MOST_ROWS];
        /** Of a when or loop its end, of an end its beginning. */
        final int[] mate = new int[MOST_ROWS];

        void forget() {
            told = false;
            steps = 0;
            rows = 0;
        }

        void copyFrom(Weeks other) {
            told = other.told;
            steps = other.steps;
            rows = other.rows;
            System.arraycopy(other.word, 0, word, 0, MOST_ROWS);
            System.arraycopy(other.first, 0, first, 0, MOST_ROWS);
            System.arraycopy(other.second, 0, second, 0, MOST_ROWS);
            System.arraycopy(other.mate, 0, mate, 0, MOST_ROWS);
        }

        void add(int newWord, int newFirst, int newSecond) {
            if (rows < MOST_ROWS) {
                word[rows] = newWord;
                first[rows] = newFirst;
                second[rows] = newSecond;
                mate[rows] = rows;
                rows++;
            }
        }
    }

    /** Reads the text of a PARK. */
    private static final class ParkReader {
        private final Text text;
        final Plan plan = new Plan();
        final Now now = new Now();
        private boolean oddsTold = false;

        ParkReader(Text text) {
            this.text = text;
        }

        /** Whether the first n bytes of the tape are a PARK, which plan and now tell then. */
        boolean takesAll(int n) {
            text.open(n);
            plan.clear();
            now.clear(plan);
            oddsTold = false;
            for (int i = 0; i <= n && text.fault == 0 && text.kind != Text.THE_END; i++) {
                switch (text.wordAt()) {
                    case Text.ODDS: takeOdds(); break;
                    case Text.PLACE: takePlace(); break;
                    case Text.TRAIN: takeTrain(); break;
                    case Text.BEAST: takeBeast(); break;
                    case Text.HUNTS: takeHunts(); break;
                    case Text.TICKET: takeTicket(); break;
                    default: text.fail(2);
                }
                text.passSign(';');
            }
            now.cageAll(plan);
            return text.fault == 0;
        }

        private void takeOdds() {
            if (oddsTold) {
                text.fail(5);
            }
            oddsTold = true;
            text.advance();
            plan.odds = text.passNumber(0, SIXTEEN);
        }

        private void takePlace() {
            if (plan.places >= MOST_PLACES) {
                text.fail(6);
                return;
            }
            text.advance();
            passNewName(Text.PLACE, plan.places);
            plan.places++;
        }

        private void takeTrain() {
            int train = plan.trains;
            if (train >= MOST_TRAINS) {
                text.fail(6);
                return;
            }
            text.advance();
            passNewName(Text.TRAIN, train);
            text.passWord(Text.FROM);
            plan.from[train] = plan.numberAt(text, Text.PLACE);
            text.advance();
            text.passWord(Text.TO);
            plan.to[train] = plan.numberAt(text, Text.PLACE);
            if (plan.to[train] == plan.from[train]) {
                text.fail(5);
            }
            text.advance();
            text.passWord(Text.AT);
            plan.at[train] = text.passNumber(0, LAST_HOUR - 1);
            text.passWord(Text.TAKES);
            plan.takes[train] = text.passNumber(1, 24);
            plan.seats[train] = optional(Text.SEATS, 1, 9, 9);
            plan.trains++;
        }

        private void takeBeast() {
            int beast = plan.beasts;
            if (beast >= MOST_BEASTS) {
                text.fail(6);
                return;
            }
            text.advance();
            passNewName(Text.BEAST, beast);
            plan.size[beast] = optional(Text.SIZE, 1, 9, 1);
            plan.trust[beast] = optional(Text.TRUST, 0, SIXTEEN, 8);
            plan.hunts[beast] = 0;
            if (text.isAt(Text.OUT)) {
                now.turnOut(beast);
                text.advance();
            }
            plan.beasts++;
        }

        private void takeHunts() {
            text.advance();
            int beast = plan.numberAt(text, Text.BEAST);
            text.advance();
            int other = plan.numberAt(text, Text.BEAST);
            if (beast == NONE || other == NONE) {
                return;
            }
            if (beast == other || isIn(plan.hunts[beast], other)) {
                text.fail(5);
            }
            plan.hunts[beast] |= 1 << other;
            text.advance();
        }

        private void takeTicket() {
            text.advance();
            int beast = plan.numberAt(text, Text.BEAST);
            if (beast == NONE) {
                return;
            }
            now.tickets[beast] = 0;
            text.advance();
            for (int i = 0; i <= MOST_TRAINS && text.kind == Text.NAME; i++) {
                int train = plan.numberAt(text, Text.TRAIN);
                if (train == NONE) {
                    return;
                }
                if (isIn(now.tickets[beast], train)) {
                    text.fail(5);
                }
                now.tickets[beast] |= 1 << train;
                text.advance();
            }
        }

        private int optional(int word, int least, int most, int without) {
            if (!text.isAt(word)) {
                return without;
            }
            text.advance();
            return text.passNumber(least, most);
        }

        private void passNewName(int of, int number) {
            if (text.kind != Text.NAME) {
                text.fail(2);
                return;
            }
            if (plan.hasName(text.name) || of == Text.BEAST && plan.places == 0) {
                text.fail(3);
                return;
            }
            plan.addName(text.name, of, number);
            text.advance();
        }
    }

    /** Reads the text of WEEKS. */
    private static final class WeeksReader {
        private static final int DEEPEST = 3;

        private final Text text;
        final Weeks weeks = new Weeks();
        /** The whens and loops that are not ended yet. */
        private final int[] open = new int[DEEPEST];
        private int depth = 0;

        WeeksReader(Text text) {
            this.text = text;
        }

        /** Whether the first n bytes of the tape are WEEKS of a plan, which weeks tell then. */
        boolean takesAll(int n, Plan plan) {
            text.open(n);
            weeks.forget();
            weeks.told = true;
            depth = 0;
            for (int i = 0; i <= n && text.fault == 0 && text.kind != Text.THE_END; i++) {
                if (text.isAt(Text.END)) {
                    takeEnd();
                } else {
                    takeStep(plan);
                }
                text.passSign(';');
            }
            if (depth > 0) {
                text.fail(2);
            }
            return text.fault == 0;
        }

        private void takeEnd() {
            if (depth <= 0) {
                text.fail(2);
                return;
            }
            depth--;
            int beginning = open[depth];
            weeks.mate[beginning] = weeks.rows;
            weeks.add(Text.END, 0, 0);
            if (weeks.rows > 0) {
                weeks.mate[weeks.rows - 1] = beginning;
            }
            text.advance();
        }

        private void takeStep(Plan plan) {
            int word = text.wordAt();
            if (!mayBegin(word)) {
                return;
            }
            text.advance();
            weeks.steps++;
            switch (word) {
                case Text.HOUR: weeks.add(word, text.passNumber(1, LAST_HOUR), 0); break;
                case Text.LOOP: weeks.add(word, text.passNumber(1, 99), 0); break;
                case Text.BUY: takeNames(plan, word, Text.BEAST, Text.TRAIN); break;
                case Text.LET: takeNames(plan, word, Text.BEAST, NONE); break;
                case Text.HALT: takeNames(plan, word, Text.TRAIN, NONE); break;
                case Text.WHEN: takeTest(plan); break;
                default: weeks.add(word, 0, 0);
            }
        }

        /** Whether a STEP may begin with a word here; a FAULT if not. A when, loop is open then. */
        private boolean mayBegin(int word) {
            boolean opens = word == Text.WHEN || word == Text.LOOP;
            if (!isStep(word)) {
                text.fail(2);
            } else if (weeks.steps >= Weeks.MOST_STEPS) {
                text.fail(6);
            } else if (opens && depth >= DEEPEST) {
                text.fail(7);
            } else if (opens) {
                open[depth] = weeks.rows;
                depth++;
            }
            return text.fault == 0;
        }

        private static boolean isStep(int word) {
            switch (word) {
                case Text.HOUR:
                case Text.MONDAY:
                case Text.BUY:
                case Text.LET:
                case Text.HALT:
                case Text.ANY:
                case Text.WHEN:
                case Text.LOOP:
                case Text.STOP:
                    return true;
                default:
                    return false;
            }
        }

        private void takeTest(Plan plan) {
            if (text.isAt(Text.IN)) {
                text.advance();
                takeNames(plan, Text.IN, Text.BEAST, Text.PLACE);
            } else if (text.isAt(Text.EATEN)) {
                text.advance();
                takeNames(plan, Text.EATEN, Text.BEAST, NONE);
            } else {
                text.passWord(Text.CLOCK);
                int compares = text.value;
                if (text.kind != Text.SIGN || compares == ';') {
                    text.fail(2);
                }
                text.advance();
                weeks.add(Text.CLOCK, compares, text.passNumber(0, LAST_HOUR));
            }
        }

        /** A row with one NAME or two; of what they are is told as in Text. */
        private void takeNames(Plan plan, int word, int firstOf, int secondOf) {
            int first = plan.numberAt(text, firstOf);
            text.advance();
            int second = NONE;
            if (secondOf != NONE) {
                second = plan.numberAt(text, secondOf);
                text.advance();
            }
            weeks.add(word, first, second);
        }
    }

    /** Does the STEPS of WEEKS. */
    private static final class Life {
        static final int MOST_STEPS = 300;
        static final int MISSED = 0;
        static final int HOURS = 1;
        static final int EATEN = 2;
        static final int LATE = 3;
        static final int CUT_OFF = 4;
        static final int COUNTS = 5;
        /** 300 STEPS with 99 rounds each come to far fewer rows. */
        private static final int MOST_TURNS = 1000000;

        int steps = NONE;
        final int[] count = new int[COUNTS];
        private int drawn = 0;
        private int next = 0;
        private final int[] rounds = new int[Weeks.MOST_ROWS];

        void run(Plan plan, Now now, Weeks weeks, int seed) {
            steps = 0;
            drawn = seed;
            next = 0;
            for (int i = 0; i < COUNTS; i++) {
                count[i] = 0;
            }
            for (int turn = 0; turn < MOST_TURNS && next < weeks.rows; turn++) {
                int row = next;
                next = row + 1;
                if (weeks.word[row] == Text.END) {
                    endRound(weeks, row);
                } else if (steps == MOST_STEPS) {
                    count[CUT_OFF] = 1;
                    return;
                } else {
                    steps++;
                    if (!isDone(plan, now, weeks, row)) {
                        count[MISSED]++;
                    }
                }
            }
        }

        private void endRound(Weeks weeks, int row) {
            int beginning = weeks.mate[row];
            if (weeks.word[beginning] == Text.LOOP) {
                rounds[beginning]--;
                if (rounds[beginning] > 0) {
                    next = beginning + 1;
                }
            }
        }

        /** Does a STEP, unless it is MISSED. */
        private boolean isDone(Plan plan, Now now, Weeks weeks, int row) {
            int first = weeks.first[row];
            switch (weeks.word[row]) {
                case Text.HOUR: return areHoursDone(plan, now, first);
                case Text.MONDAY: return isMondayDone(plan, now);
                case Text.ANY: return isSnowDone(plan, now);
                case Text.HALT: now.turnHalt(first); return true;
                case Text.STOP: next = weeks.rows; return true;
                case Text.LOOP: rounds[row] = first; return true;
                case Text.BUY:
                    if (now.isEaten(first)) {
                        return false;
                    }
                    now.turnTicket(first, weeks.second[row]);
                    return true;
                case Text.LET:
                    if (now.isEaten(first)) {
                        return false;
                    }
                    now.turnOut(first);
                    return true;
                default:
                    if (!isSo(now, weeks, row)) {
                        next = weeks.mate[row] + 1;
                    }
                    return true;
            }
        }

        private boolean areHoursDone(Plan plan, Now now, int many) {
            if (now.hour + many > LAST_HOUR) {
                return false;
            }
            count[HOURS] += many;
            count[EATEN] += Integer.bitCount(now.passUntil(plan, now.hour + many));
            return true;
        }

        private boolean isMondayDone(Plan plan, Now now) {
            if (now.hour < LAST_HOUR || now.week >= LAST_WEEK) {
                return false;
            }
            count[LATE] += Integer.bitCount(now.fetchAll(plan));
            return true;
        }

        private boolean isSnowDone(Plan plan, Now now) {
            if (plan.trains == 0) {
                return false;
            }
            int halted = 0;
            for (int k = 0; k < plan.trains; k++) {
                drawn = (drawn * 3089 + 11317) % 65536;
                if (drawn / 8 % SIXTEEN < plan.odds) {
                    halted |= 1 << k;
                }
            }
            now.halted = halted;
            return true;
        }

        /** Whether the TEST of a when holds. */
        private boolean isSo(Now now, Weeks weeks, int row) {
            int first = weeks.first[row];
            int second = weeks.second[row];
            switch (weeks.word[row]) {
                case Text.IN: return isIn(now.inPlace[second], first);
                case Text.EATEN: return now.isEaten(first);
                default:
                    if (first == '<') {
                        return now.hour < second;
                    }
                    return first == '>' ? now.hour > second : now.hour == second;
            }
        }
    }

    /** WAYS by TRAINS that go, SEATS not asked. */
    private static final class Ways {
        private static final int NEVER = LAST_HOUR + 1;

        /** The HOUR at which each PLACE is reached, as setOut() found it. */
        final int[] there = new int[MOST_PLACES];
        private final int[] byHour = new int[MOST_TRAINS];

        /** Must be called ahead of the others: a TRAIN may have come to another HOUR. */
        void order(Plan plan) {
            for (int k = 0; k < plan.trains; k++) {
                int i = k;
                while (i > 0 && plan.at[byHour[i - 1]] > plan.at[k]) {
                    byHour[i] = byHour[i - 1];
                    i--;
                }
                byHour[i] = k;
            }
        }

        /** Who is at a PLACE at an HOUR: how soon at each. The TRAINS of a set are closed. */
        void setOut(Plan plan, int closed, int place, int hour) {
            for (int p = 0; p < MOST_PLACES; p++) {
                there[p] = NEVER;
            }
            there[place] = hour;
            // A TRAIN takes an HOUR at least, so what comes ahead on a way goes at a lower HOUR.
            for (int i = 0; i < plan.trains; i++) {
                int k = byHour[i];
                int arrives = plan.at[k] + plan.takes[k];
                if (!isIn(closed, k) && there[plan.from[k]] <= plan.at[k]
                        && arrives <= LAST_HOUR && arrives < there[plan.to[k]]) {
                    there[plan.to[k]] = arrives;
                }
            }
        }

        /** Greater than 64 if it can't be. */
        int soon(Plan plan, int closed, int place, int hour, int to) {
            setOut(plan, closed, place, hour);
            return there[to];
        }

        /** How soon one is somewhere who begins with a TRAIN. */
        private int soonWith(Plan plan, int closed, int train, int to) {
            int arrives = plan.at[train] + plan.takes[train];
            if (isIn(closed, train) || arrives > LAST_HOUR) {
                return NEVER;
            }
            return soon(plan, closed, plan.to[train], arrives, to);
        }

        int firstTrain(Plan plan, int closed, int place, int hour, int to) {
            int soonest = soon(plan, closed, place, hour, to);
            if (soonest > LAST_HOUR) {
                return NONE;
            }
            for (int k = 0; k < plan.trains; k++) {
                if (plan.from[k] == place && plan.at[k] >= hour
                        && soonWith(plan, closed, k, to) == soonest) {
                    return k;
                }
            }
            return NONE;
        }

        /** The latest HOUR to leave for another PLACE; NONE if it can't be. */
        int lastStart(Plan plan, int closed, int place, int to, int by) {
            int last = NONE;
            for (int k = 0; k < plan.trains; k++) {
                if (plan.from[k] == place && plan.at[k] > last
                        && soonWith(plan, closed, k, to) <= by) {
                    last = plan.at[k];
                }
            }
            return last;
        }
    }

    /** ROOMS for sets of BEASTS. */
    private static final class Rooms {
        private static final int SETS = 1 << MOST_BEASTS;
        private static final int NO_ROOM = 1000;

        /** The SIZES of a set together; of one that can't be in one room more than any room. */
        private final int[] weight = new int[SETS];
        private final int[] need = new int[SETS];

        /** Must be called ahead of fewest(). */
        void weigh(Plan plan) {
            weight[0] = 0;
            for (int b = 0; b < plan.beasts; b++) {
                int bit = 1 << b;
                int foes = plan.hunts[b];
                for (int other = 0; other < plan.beasts; other++) {
                    if (isIn(plan.hunts[other], b)) {
                        foes |= 1 << other;
                    }
                }
                for (int rest = 0; rest < bit; rest++) {
                    boolean fights = (rest & foes) != 0;
                    weight[bit | rest] = weight[rest] + (fights ? NO_ROOM : plan.size[b]);
                }
            }
        }

        /** More than 8 if one of the set is greater than a room. */
        int fewest(int set, int size) {
            need[0] = 0;
            for (int part = 1; part <= set && part < SETS; part++) {
                if ((part & ~set) == 0) {
                    need[part] = fewestOf(part, size);
                }
            }
            return set < SETS ? need[set] : NO_ROOM;
        }

        private int fewestOf(int part, int size) {
            int first = part & -part;
            int others = part ^ first;
            int best = NO_ROOM;
            // The room of the first one: with any of the others; each turn is a lesser set.
            for (int mates = others, turn = 0; turn < SETS; turn++) {
                if (weight[first | mates] <= size) {
                    best = Math.min(best, need[others ^ mates] + 1);
                }
                if (mates == 0) {
                    break;
                }
                mates = mates - 1 & others;
            }
            return best;
        }
    }

    /** What the PARROT tells, by HOURS. */
    private static final class Parrot {
        private int threes = 0;
        private final int[] hour = new int[MOST_THREES];
        private final int[] place = new int[MOST_THREES];
        private final int[] beast = new int[MOST_THREES];

        /** Takes the first n threes; false if one of the numbers can't be. */
        boolean hears(Plan plan, long[] row, int n) {
            threes = 0;
            for (int i = 0; i < n && 3 * i + 2 < row.length; i++) {
                long h = row[3 * i];
                long p = row[3 * i + 1];
                long b = row[3 * i + 2];
                if (h < 0 || h > LAST_HOUR || p < 1 || p >= plan.places
                        || b < 0 || b >= plan.beasts) {
                    return false;
                }
                insert((int) h, (int) p, (int) b);
            }
            return true;
        }

        private void insert(int h, int p, int b) {
            if (threes >= MOST_THREES) {
                return;
            }
            int i = threes;
            while (i > 0 && hour[i - 1] > h) {
                hour[i] = hour[i - 1];
                place[i] = place[i - 1];
                beast[i] = beast[i - 1];
                i--;
            }
            hour[i] = h;
            place[i] = p;
            beast[i] = b;
            threes++;
        }

        /** How many of the threes are not so when a set is LET OUT. */
        int slipsIf(Plan plan, Now now, Now trial, int set) {
            trial.letOut(plan, now, set);
            int slips = 0;
            for (int i = 0; i < threes; i++) {
                trial.passUntil(plan, hour[i]);
                if (!isIn(trial.inPlace[place[i]], beast[i])) {
                    slips++;
                }
            }
            return slips;
        }
    }
}
