import java.util.NoSuchElementException;

/**
 * A clock tower that is people: who stands on whom, how the loads come down, who falls and why.
 *
 * <p>Sets of people are bits of an int. Everything a call works with is made in the constructor
 * and used again, so that a run of calls makes no new objects but its exceptions.
 */
public final class WakeTower {
    public static final int NONE = -1;

    private static final int PEOPLE = 8;
    private static final int SETS = 256;
    private static final int RINGS = 5;
    private static final int TEXTS = 12;
    private static final int MOST_NEED = 8;
    private static final int MOST_HOURS = 60;
    private static final int MOST_DAY = 9999;
    private static final int MOST_MORE = 99;
    private static final int MOST_FULL = 999;
    private static final int MOST_ODDS_HOURS = 4;
    private static final int SPAN_SEEDS = 6;
    private static final int DEAREST_HOURS = 2;
    private static final int DEAREST_FULL = 100;

    private final Tape tape = new Tape();
    private final Tower now = new Tower();
    /** What an act, a text or a look ahead would make of the tower: tried out here, away from now. */
    private final Tower next = new Tower();
    private final Tower imageTower = new Tower();
    private final Law ruling = new Law();
    private final Law nextLaw = new Law();
    private final Law imageLaw = new Law();
    private final Past past = new Past();
    private final Senses senses = new Senses();
    private final Roster plan = new Roster();
    private final Reliefs reliefs = new Reliefs();
    private boolean imageKept = false;

    public WakeTower() {
    }

    // ---- the tape and the texts

    public int feed(int a, int b, int c, int d, int e) {
        if (!tape.hasRoom()) {
            return NONE;
        }
        tape.append(a);
        tape.append(b);
        tape.append(c);
        tape.append(d);
        tape.append(e);
        return tape.length;
    }

    public boolean end(int n) {
        if (n < 0 || n > tape.length) {
            return false;
        }
        tape.length = n;
        return true;
    }

    public int tower() throws IllegalArgumentException, UnsupportedOperationException {
        next.copyFrom(now);
        boolean right = TowerText.read(tape, next);
        tape.length = 0;
        if (!right) {
            throw new IllegalArgumentException("the text is wrong");
        }
        if (now.texts >= TEXTS) {
            throw new UnsupportedOperationException("there are 12 texts");
        }
        next.texts++;
        now.copyFrom(next);
        past.forget();
        return now.texts;
    }

    public int law() throws IllegalArgumentException {
        boolean right = LawText.read(tape, nextLaw);
        tape.length = 0;
        if (!right) {
            throw new IllegalArgumentException("the text is wrong");
        }
        ruling.copyFrom(nextLaw);
        past.forget();
        return ruling.lines;
    }

    public int fault() {
        return tape.fault;
    }

    // ---- one person

    public int person(int person, int what) throws IndexOutOfBoundsException, NoSuchElementException {
        mustBePerson(person);
        boolean up = has(now.up, person);
        switch (what) {
            case 0: return now.weight[person];
            case 1: return now.full[person];
            case 2: return now.strength[person];
            case 3: return has(now.asleep, person) ? 1 : 0;
            case 4: return now.awake[person];
            case 5: return up ? 1 : 0;
            case 6: return up ? now.ringOf[person] : NONE;
            case 7: return now.on[person];
            case 8: return now.borne[person];
            case 9: return ruling.amountOf(Law.FADE, now, person);
            case 10: return ruling.amountOf(Law.MEND, now, person);
            case 11: return ruling.amountOf(Law.DROWSE, now, person);
            case 12: return has(now.holders(), person) ? now.spare(person) : 0;
            case 13: return shareOf(person);
            default: throw new NoSuchElementException("nothing is told by that number");
        }
    }

    private int shareOf(int person) {
        int all = now.borneByAll();
        return all > 0 ? 100 * now.borne[person] / all : 0;
    }

    // ---- acts

    public int hours(int n) throws IllegalArgumentException {
        mustBeOne(n >= 1 && n <= MOST_HOURS);
        past.remember(now);
        return now.passHours(ruling, n, true);
    }

    public int rise(int person, int ring, int on) throws IndexOutOfBoundsException, IllegalStateException {
        mustBePerson(person);
        mustBeRing(ring);
        int under = on & now.everyone();
        mustBeSo(!has(now.up, person) && now.fitsRing(ring, under));
        next.copyFrom(now);
        next.bringUp(person, ring, under);
        keepNext();
        return now.borneByAll();
    }

    public int out(int person) throws IndexOutOfBoundsException, IllegalStateException {
        mustBePerson(person);
        mustBeUp(person);
        next.copyFrom(now);
        next.takeDown(bit(person));
        keepNext();
        return now.borneByAll();
    }

    public int relieve(int person, int other)
            throws IndexOutOfBoundsException, IllegalArgumentException, IllegalStateException {
        mustBePerson(person);
        mustBePerson(other);
        mustBeOne(person != other);
        mustBeSo(now.canSwap(person, other));
        next.copyFrom(now);
        next.swap(person, other);
        keepNext();
        return now.borne[other];
    }

    public int lean(int person, int on) throws IndexOutOfBoundsException, IllegalStateException {
        mustBePerson(person);
        mustBeUp(person);
        int ring = now.ringOf[person];
        int under = on & now.everyone();
        mustBeSo(ring > 0 && now.fitsRing(ring, under));
        int before = now.on[person];
        next.copyFrom(now);
        next.on[person] = under;
        keepNext();
        return before;
    }

    public int wake(int person) throws IndexOutOfBoundsException, IllegalStateException {
        mustBePerson(person);
        mustBeSo(has(now.asleep, person));
        next.copyFrom(now);
        next.asleep &= ~bit(person);
        keepNext();
        return now.borne[person];
    }

    public int sleep(int person) throws IndexOutOfBoundsException, IllegalStateException {
        mustBePerson(person);
        mustBeSo(!has(now.asleep, person));
        next.copyFrom(now);
        next.asleep |= bit(person);
        keepNext();
        return now.borneByAll();
    }

    public int need(int n) throws IllegalArgumentException {
        mustBeOne(n >= 0 && n <= MOST_NEED);
        int before = now.need;
        past.remember(now);
        now.need = n;
        return before;
    }

    /** The act tried in next becomes what is, if the tower stands by it. */
    private void keepNext() {
        next.settle();
        mustBeSo(next.stands(next.up, next.asleep));
        past.remember(now);
        now.copyFrom(next);
    }

    // ---- loads and who can go

    public int total() {
        int sum = 0;
        for (int i = 0; i < PEOPLE; i++) {
            sum += has(now.up, i) ? now.weight[i] : 0;
        }
        return sum;
    }

    public int ground() {
        int lowest = now.inRing(0);
        int sum = 0;
        for (int i = 0; i < PEOPLE; i++) {
            sum += has(lowest, i) ? now.weight[i] + now.borne[i] : 0;
        }
        return sum;
    }

    public int height() {
        return now.uppermost() + 1;
    }

    public int weakest() {
        int holders = now.holders();
        int best = NONE;
        for (int i = 0; i < PEOPLE; i++) {
            if (has(holders, i) && (best == NONE || now.spare(i) < now.spare(best))) {
                best = i;
            }
        }
        return best;
    }

    public int more(int person) throws IndexOutOfBoundsException, IllegalStateException {
        mustBePerson(person);
        mustBeUp(person);
        next.copyFrom(now);
        int most = 0;
        for (int more = 1; more <= MOST_MORE; more++) {
            next.weight[person] = now.weight[person] + more;
            // more weight never makes a share less: the first that is too much ends it
            if (!next.stands(next.up, next.asleep)) {
                return most;
            }
            most = more;
        }
        return most;
    }

    public int outs() {
        int set = 0;
        for (int i = 0; i < PEOPLE; i++) {
            if (has(now.up, i) && now.stands(now.up & ~bit(i), now.asleep)) {
                set |= bit(i);
            }
        }
        return set;
    }

    public int sleeps() {
        int holders = now.holders();
        int set = 0;
        for (int i = 0; i < PEOPLE; i++) {
            if (has(holders, i) && now.stands(now.up, now.asleep | bit(i))) {
                set |= bit(i);
            }
        }
        return set;
    }

    public int falls(int person) throws IndexOutOfBoundsException, IllegalStateException {
        mustBePerson(person);
        mustBeUp(person);
        return fallOf(person);
    }

    public int rounds(int person) throws IndexOutOfBoundsException, IllegalStateException {
        mustBePerson(person);
        mustBeUp(person);
        fallOf(person);
        return next.fallRounds;
    }

    public int fallen(int person, int k) throws IndexOutOfBoundsException, IllegalStateException {
        mustBePerson(person);
        mustBeUp(person);
        int fell = fallOf(person);
        if (k == 0) {
            return person;
        }
        return k > 0 && k < fell && k <= PEOPLE ? next.fallOrder[k - 1] : NONE;
    }

    /** How many come down with one who comes out; next has their order and the rounds then. */
    private int fallOf(int person) {
        next.copyFrom(now);
        next.takeDown(bit(person));
        return 1 + next.collapse();
    }

    public int key() {
        int best = NONE;
        int most = 0;
        for (int i = 0; i < PEOPLE; i++) {
            int fell = has(now.up, i) ? fallOf(i) : 0;
            if (fell > most) {
                most = fell;
                best = i;
            }
        }
        return best;
    }

    public int pillars() {
        int many = 0;
        for (int set = 0; set < SETS; set++) {
            if (within(set, now.up) && now.stands(set, now.asleep)) {
                many++;
            }
        }
        return many;
    }

    public int left() {
        int top = now.inRing(now.uppermost());
        int best = now.up;
        for (int set = 0; set < SETS; set++) {
            boolean fewer = Integer.bitCount(set) < Integer.bitCount(best);
            if (fewer && within(set, now.up) && (set & top) != 0 && now.stands(set, now.asleep)) {
                best = set;
            }
        }
        return best;
    }

    // ---- told reliefs

    public int guard(int k) throws IllegalArgumentException {
        boolean right = reliefs.read(tape, now.people);
        tape.length = 0;
        mustBeOne(right);
        return reliefs.rowOf(k, now, next);
    }

    public int solo() throws IllegalArgumentException {
        boolean right = reliefs.read(tape, now.people);
        tape.length = 0;
        mustBeOne(right);
        return reliefs.firstRows(now, next);
    }

    // ---- what one knows

    public int feels(int person) throws IndexOutOfBoundsException, IllegalStateException {
        mustBePerson(person);
        mustHold(person);
        senses.gather(now, person, person);
        return senses.many;
    }

    public int sure(int person) throws IndexOutOfBoundsException, IllegalStateException {
        mustBePerson(person);
        mustHold(person);
        senses.gather(now, person, person);
        return senses.asleepInAll();
    }

    public int free(int person) throws IndexOutOfBoundsException, IllegalStateException {
        mustBePerson(person);
        mustHold(person);
        senses.gather(now, person, person);
        return now.up & ~bit(person) & ~senses.asleepInSome();
    }

    public int both(int person, int other)
            throws IndexOutOfBoundsException, IllegalArgumentException, IllegalStateException {
        mustBePerson(person);
        mustBePerson(other);
        mustBeOne(person != other);
        mustHold(person);
        mustHold(other);
        senses.gather(now, person, other);
        return senses.many;
    }

    public int ask(int person) throws IndexOutOfBoundsException, IllegalStateException {
        mustBePerson(person);
        mustHold(person);
        senses.gather(now, person, person);
        return senses.bestToAsk(now.holders() & ~bit(person));
    }

    // ---- pushes

    public int pushes(int person, int other) throws IndexOutOfBoundsException {
        mustBePerson(person);
        mustBePerson(other);
        return Touch.steps(now, person, bit(other));
    }

    public int tell(int person) throws IndexOutOfBoundsException {
        mustBePerson(person);
        return Touch.steps(now, person, now.holders());
    }

    public int herald() {
        int best = NONE;
        int least = 0;
        for (int i = 0; i < PEOPLE; i++) {
            int steps = has(now.holders(), i) ? Touch.steps(now, i, now.holders()) : NONE;
            if (steps != NONE && (best == NONE || steps < least)) {
                best = i;
                least = steps;
            }
        }
        return best;
    }

    public int cuts(int person) throws IndexOutOfBoundsException {
        mustBePerson(person);
        int holders = now.holders();
        if (!has(holders, person)) {
            return 0;
        }
        int others = holders & ~bit(person);
        int pairs = 0;
        for (int i = 0; i < PEOPLE; i++) {
            if (has(others, i)) {
                int lost = Touch.reached(now, i, holders) & others & ~Touch.reached(now, i, others);
                // each pair from its lesser one
                pairs += Integer.bitCount(lost & ~(bit(i + 1) - 1));
            }
        }
        return pairs;
    }

    // ---- rosters and pairs

    public int roster(int n, int x, int k) throws IllegalArgumentException {
        mustBeOne(n >= 1 && n <= Roster.MOST_HOURS && x >= 0 && x <= MOST_FULL);
        int places = plan.places(now.full, now.everyone(), n, x);
        if (k == NONE || places == NONE) {
            return places;
        }
        return k >= 0 && k < n ? plan.setOf(k, n, x) : NONE;
    }

    public int pairs(int x) throws IllegalArgumentException {
        mustBeOne(x >= 0 && x <= MOST_FULL);
        int pairs = 0;
        for (int i = 0; i < PEOPLE; i++) {
            for (int j = i + 1; j < PEOPLE; j++) {
                if (j < now.people && now.full[i] + now.full[j] >= x) {
                    pairs++;
                }
            }
        }
        return pairs;
    }

    public int dearest() {
        int best = NONE;
        int most = 0;
        for (int i = 0; i < PEOPLE; i++) {
            if (i < now.people) {
                int places = plan.places(now.full, now.everyone() & ~bit(i), DEAREST_HOURS, DEAREST_FULL);
                // none there is more than all
                int cost = places == NONE ? Roster.NO_WAY : places;
                if (best == NONE || cost > most) {
                    best = i;
                    most = cost;
                }
            }
        }
        return best;
    }

    // ---- choices, odds, and who is like whom

    public int rests(int person, int other) throws IndexOutOfBoundsException, IllegalStateException {
        mustBePerson(person);
        mustBePerson(other);
        mustHold(person);
        mustHold(other);
        mustBeSo(has(now.on[person], other));
        int set = 0;
        for (int first = 0; first < 2; first++) {
            for (int second = 0; second < 2; second++) {
                boolean firstStays = firstHas(first, second) >= firstHas(1 - first, second);
                boolean secondStays = secondHas(first, second, other) >= secondHas(first, 1 - second, other);
                if (firstStays && secondStays) {
                    set |= bit(2 * first + second);
                }
            }
        }
        return set;
    }

    /** What the first one has of RESTS: it sleeps (0) or wakes (1), the other one grumbles (0) or is still (1). */
    private static int firstHas(int first, int second) {
        if (first == 1) {
            return 1;
        }
        return second == 0 ? 3 - 5 : 3;
    }

    /** What the other one has of RESTS. */
    private int secondHas(int first, int second, int other) {
        boolean sleeps = first == 0;
        int has = sleeps ? -(now.borne[other] / 10) : 0;
        if (second == 0) {
            has += sleeps ? 2 : -1;
        }
        return has;
    }

    public int odds(int person, int n) throws IndexOutOfBoundsException, IllegalArgumentException {
        mustBePerson(person);
        mustBeOne(n >= 0 && n <= MOST_ODDS_HOURS);
        int awake = 100 - Math.min(100, ruling.amountOf(Law.DROWSE, now, person));
        int odds = 10000;
        for (int i = 0; i < n; i++) {
            odds = odds * awake / 100;
        }
        return odds;
    }

    public int alone() {
        int holders = now.holders();
        int set = 0;
        for (int i = 0; i < PEOPLE; i++) {
            if (has(now.up, i) && Integer.bitCount(now.on[i] & holders) == 1) {
                set |= bit(i);
            }
        }
        return set;
    }

    public int tired() {
        int best = NONE;
        int most = 0;
        for (int i = 0; i < PEOPLE; i++) {
            if (now.awake[i] > most) {
                most = now.awake[i];
                best = i;
            }
        }
        return best;
    }

    public int twins() {
        int pairs = 0;
        for (int i = 0; i < PEOPLE; i++) {
            for (int j = i + 1; j < PEOPLE; j++) {
                if (j < now.people && now.weight[i] == now.weight[j] && now.full[i] == now.full[j]) {
                    pairs++;
                }
            }
        }
        return pairs;
    }

    public int ring(int ring) throws IndexOutOfBoundsException {
        mustBeRing(ring);
        return now.inRing(ring);
    }

    public int reserves() {
        return now.everyone() & ~now.up;
    }

    public int sleepers() {
        return now.asleep;
    }

    // ---- hours to come

    public int soon() {
        next.copyFrom(now);
        for (int n = 0; n <= MOST_HOURS; n++) {
            if (Integer.bitCount(next.up) < next.need) {
                return n;
            }
            next.passHours(ruling, 1, false);
        }
        return NONE;
    }

    public int ahead(int person, int n) throws IndexOutOfBoundsException, IllegalArgumentException {
        mustBePerson(person);
        mustBeLookAhead(n);
        next.copyFrom(now);
        next.passHours(ruling, n, false);
        return next.strength[person];
    }

    public int trial(int n, boolean asleep) throws IllegalArgumentException {
        mustBeLookAhead(n);
        next.copyFrom(now);
        next.passHours(ruling, n, true);
        return asleep ? next.asleep : next.up;
    }

    public int span(int n, boolean most) throws IllegalArgumentException {
        mustBeLookAhead(n);
        int best = NONE;
        for (int seed = 1; seed <= SPAN_SEEDS; seed++) {
            next.copyFrom(now);
            next.seed = seed;
            next.passHours(ruling, n, true);
            int many = Integer.bitCount(next.up);
            if (best == NONE || (most ? many > best : many < best)) {
                best = many;
            }
        }
        return best;
    }

    // ---- the log, what is undone, the image

    public int led(int person, boolean day) throws IndexOutOfBoundsException {
        mustBePerson(person);
        return day ? now.fellLog.latestDay(person) : now.fellLog.rowsOf(person);
    }

    public int log(int ago, int what) throws NoSuchElementException {
        if (what < 0 || what >= Log.WIDTH) {
            throw new NoSuchElementException("nothing is told by that number");
        }
        return now.fellLog.at(ago, what);
    }

    public int seed(int n) {
        int before = now.seed;
        now.seed = n;
        return before;
    }

    public boolean undo() {
        return past.recall(now);
    }

    public void image() {
        imageTower.copyFrom(now);
        imageLaw.copyFrom(ruling);
        imageKept = true;
    }

    public boolean back() {
        if (!imageKept) {
            return false;
        }
        now.copyFrom(imageTower);
        ruling.copyFrom(imageLaw);
        past.forget();
        return true;
    }

    public int count(int what) {
        switch (what) {
            case 0: return now.people;
            case 1: return now.texts;
            case 2: return ruling.told ? ruling.lines : NONE;
            case 3: return now.hour;
            case 4: return now.day;
            case 5: return now.need;
            case 6: return now.up;
            case 7: return now.borneByAll();
            case 8: return now.strengthOfAll();
            case 9: return now.fellLog.many;
            case 10: return past.many;
            default: return NONE;
        }
    }

    // ---- what the exceptions rest on

    private void mustBePerson(int person) {
        if (!now.isPerson(person)) {
            throw new IndexOutOfBoundsException("there is no such person");
        }
    }

    private static void mustBeRing(int ring) {
        if (ring < 0 || ring >= RINGS) {
            throw new IndexOutOfBoundsException("there is no such ring");
        }
    }

    private static void mustBeOne(boolean right) {
        if (!right) {
            throw new IllegalArgumentException("that is none, or two are one");
        }
    }

    private static void mustBeSo(boolean can) {
        if (!can) {
            throw new IllegalStateException("it cannot be");
        }
    }

    private static void mustBeLookAhead(int n) {
        mustBeOne(n >= 0 && n <= MOST_HOURS);
    }

    private void mustBeUp(int person) {
        mustBeSo(has(now.up, person));
    }

    private void mustHold(int person) {
        mustBeSo(has(now.holders(), person));
    }

    // ---- sets as bits

    private static int bit(int person) {
        return 1 << person;
    }

    private static boolean has(int set, int person) {
        return (set >> person & 1) != 0;
    }

    private static boolean within(int set, int whole) {
        return (set & ~whole) == 0;
    }

    /** The people and all that changes by hours and acts. */
    private static final class Tower {
        private static final int HOURS_OF_DAY = 24;
        private static final int MOST_AWAKE = 99;
        private static final int DRAW_TIMES = 1103515245;
        private static final int DRAW_MORE = 12345;

        int people = 0;
        int up = 0;
        int asleep = 0;
        int hour = 0;
        int day = 0;
        int need = 1;
        int seed = 1;
        int texts = 0;
        final int[] weight = new int[PEOPLE];
        final int[] full = new int[PEOPLE];
        final int[] strength = new int[PEOPLE];
        final int[] awake = new int[PEOPLE];
        final int[] ringOf = new int[PEOPLE];
        final int[] on = new int[PEOPLE];
        /** Those that somebody is on, and what each bears, as the tower is: settle() makes them so. */
        int trodden = 0;
        final int[] borne = new int[PEOPLE];
        /** What each would bear in a tower that is only thought of. */
        private final int[] supposed = new int[PEOPLE];
        final Log fellLog = new Log();
        /** Who came down in the latest collapse, one behind another, and in how many rounds. */
        final int[] fallOrder = new int[PEOPLE];
        int fallRounds = 0;

        void copyFrom(Tower other) {
            people = other.people;
            up = other.up;
            asleep = other.asleep;
            hour = other.hour;
            day = other.day;
            need = other.need;
            seed = other.seed;
            texts = other.texts;
            trodden = other.trodden;
            System.arraycopy(other.weight, 0, weight, 0, PEOPLE);
            System.arraycopy(other.full, 0, full, 0, PEOPLE);
            System.arraycopy(other.strength, 0, strength, 0, PEOPLE);
            System.arraycopy(other.awake, 0, awake, 0, PEOPLE);
            System.arraycopy(other.ringOf, 0, ringOf, 0, PEOPLE);
            System.arraycopy(other.on, 0, on, 0, PEOPLE);
            System.arraycopy(other.borne, 0, borne, 0, PEOPLE);
            fellLog.copyFrom(other.fellLog);
        }

        boolean isPerson(int person) {
            return person >= 0 && person < PEOPLE && person < people;
        }

        int everyone() {
            return bit(people) - 1;
        }

        int holders() {
            return up & ~asleep;
        }

        int inRing(int ring) {
            int set = 0;
            for (int i = 0; i < PEOPLE; i++) {
                if (has(up, i) && ringOf[i] == ring) {
                    set |= bit(i);
                }
            }
            return set;
        }

        /** The uppermost ring that somebody is in, or NONE. */
        int uppermost() {
            int most = NONE;
            for (int i = 0; i < PEOPLE; i++) {
                if (has(up, i) && ringOf[i] > most) {
                    most = ringOf[i];
                }
            }
            return most;
        }

        int spare(int person) {
            return strength[person] - borne[person];
        }

        int borneByAll() {
            int sum = 0;
            for (int i = 0; i < PEOPLE; i++) {
                sum += borne[i];
            }
            return sum;
        }

        int strengthOfAll() {
            int sum = 0;
            for (int i = 0; i < PEOPLE; i++) {
                sum += strength[i];
            }
            return sum;
        }

        // -- changes

        void addPerson(int itsWeight, int itsFull) {
            if (people >= 0 && people < PEOPLE) {
                weight[people] = itsWeight;
                full[people] = itsFull;
                strength[people] = itsFull;
                people++;
            }
        }

        /** Whether one may be in a ring on these: on nobody in ring 0, else on some of the ring below. */
        boolean fitsRing(int ring, int under) {
            return ring == 0 ? under == 0 : under != 0 && within(under, inRing(ring - 1));
        }

        void bringUp(int person, int ring, int under) {
            up |= bit(person);
            ringOf[person] = ring;
            on[person] = under;
        }

        /** They are down, on nobody, and nobody is on them any more. */
        void takeDown(int set) {
            up &= ~set;
            for (int i = 0; i < PEOPLE; i++) {
                on[i] = has(set, i) ? 0 : on[i] & ~set;
            }
        }

        boolean canSwap(int out, int in) {
            return has(up, out) && !has(up, in);
        }

        /** One who is down takes the place of one who is up. */
        void swap(int out, int in) {
            for (int i = 0; i < PEOPLE; i++) {
                if (has(on[i], out)) {
                    on[i] |= bit(in);
                }
            }
            bringUp(in, ringOf[out], on[out]);
            takeDown(bit(out));
        }

        // -- loads

        void settle() {
            trodden = 0;
            for (int i = 0; i < PEOPLE; i++) {
                trodden |= on[i];
            }
            carry(up, asleep, borne);
        }

        /** What each bears, if these are up and these asleep; whoever is on others that are not up is not on them. */
        void carry(int ups, int sleeping, int[] bears) {
            int holding = ups & ~sleeping;
            for (int i = 0; i < PEOPLE; i++) {
                bears[i] = 0;
            }
            for (int ring = RINGS - 1; ring > 0; ring--) {
                for (int i = 0; i < PEOPLE; i++) {
                    if (has(ups, i) && ringOf[i] == ring) {
                        shareOut(weight[i] + bears[i], on[i] & holding, bears);
                    }
                }
            }
        }

        private static void shareOut(int load, int among, int[] bears) {
            int many = Integer.bitCount(among);
            if (many == 0) {
                return;
            }
            int each = load / many;
            int over = load % many;
            for (int i = 0; i < PEOPLE; i++) {
                if (has(among, i)) {
                    bears[i] += over > 0 ? each + 1 : each;
                    over--;
                }
            }
        }

        /** Who would hang, if these were up and these asleep. */
        int hanging(int ups, int sleeping) {
            int holding = ups & ~sleeping;
            int set = 0;
            for (int i = 0; i < PEOPLE; i++) {
                if (has(ups, i) && ringOf[i] > 0 && (on[i] & holding) == 0) {
                    set |= bit(i);
                }
            }
            return set;
        }

        private int yielding(int holding, int[] bears) {
            int set = 0;
            for (int i = 0; i < PEOPLE; i++) {
                if (has(holding, i) && bears[i] > strength[i]) {
                    set |= bit(i);
                }
            }
            return set;
        }

        /** Whether nobody would give way or hang, if these were up and these asleep. */
        boolean stands(int ups, int sleeping) {
            if (hanging(ups, sleeping) != 0) {
                return false;
            }
            carry(ups, sleeping, supposed);
            return yielding(ups & ~sleeping, supposed) == 0;
        }

        /** A FALL: how many come down. */
        int collapse() {
            int fell = 0;
            fallRounds = 0;
            // each round takes one down at least
            for (int round = 1; round <= PEOPLE; round++) {
                settle();
                int yields = yielding(holders(), borne);
                int downs = yields | hanging(up, asleep);
                if (downs == 0) {
                    return fell;
                }
                for (int i = 0; i < PEOPLE; i++) {
                    if (has(downs, i) && fell < PEOPLE) {
                        fallOrder[fell] = i;
                        fell++;
                        fellLog.add(day, hour, i, round, has(yields, i) ? 0 : 1, borne[i]);
                    }
                }
                takeDown(downs);
                asleep &= ~downs;
                fallRounds = round;
            }
            settle();
            return fell;
        }

        // -- hours

        /** So many HOURS, with draws or without: how many fell. */
        int passHours(Law law, int many, boolean drawn) {
            int fell = 0;
            for (int i = 0; i < many && i < MOST_HOURS; i++) {
                fell += passHour(law, drawn);
            }
            return fell;
        }

        private int passHour(Law law, boolean drawn) {
            for (int i = 0; i < PEOPLE; i++) {
                if (i < people) {
                    fadeAndMend(law, i);
                }
            }
            if (drawn) {
                drawSleep(law);
            }
            int fell = collapse();
            hour++;
            if (hour >= HOURS_OF_DAY) {
                hour = 0;
                day = Math.min(MOST_DAY, day + 1);
            }
            return fell;
        }

        private void fadeAndMend(Law law, int i) {
            // the law of one rests on its own state alone, so that one after another is as all at once
            int fades = law.amountOf(Law.FADE, this, i);
            int mends = law.amountOf(Law.MEND, this, i);
            strength[i] = Math.min(full[i], Math.max(0, strength[i] - fades) + mends);
            awake[i] = has(holders(), i) ? Math.min(MOST_AWAKE, awake[i] + 1) : 0;
        }

        private void drawSleep(Law law) {
            for (int i = 0; i < PEOPLE; i++) {
                if (has(holders(), i) && draw() % 100 < law.amountOf(Law.DROWSE, this, i)) {
                    asleep |= bit(i);
                    // those who come behind drowse by what they bear then
                    settle();
                }
            }
        }

        private int draw() {
            seed = DRAW_TIMES * seed + DRAW_MORE;
            return seed >>> 16 & 0x7fff;
        }
    }

    /** The latest who fell, a row each, as a ring of rows. */
    private static final class Log {
        static final int WIDTH = 6;
        private static final int ROWS = 60;

        private final int[] rows = new int[ROWS * WIDTH];
        private int next = 0;
        int many = 0;

        void copyFrom(Log other) {
            System.arraycopy(other.rows, 0, rows, 0, ROWS * WIDTH);
            next = other.next;
            many = other.many;
        }

        void add(int day, int hour, int person, int round, int alone, int bore) {
            int row = next * WIDTH;
            if (row < 0 || row > rows.length - WIDTH) {
                return;
            }
            rows[row] = day;
            rows[row + 1] = hour;
            rows[row + 2] = person;
            rows[row + 3] = round;
            rows[row + 4] = alone;
            rows[row + 5] = bore;
            next = next + 1 < ROWS ? next + 1 : 0;
            many = Math.min(ROWS, many + 1);
        }

        int at(int ago, int what) {
            if (ago < 0 || ago >= many) {
                return NONE;
            }
            int index = Math.floorMod(next - 1 - ago, ROWS) * WIDTH + what;
            return index >= 0 && index < rows.length ? rows[index] : NONE;
        }

        int rowsOf(int person) {
            int found = 0;
            for (int ago = 0; ago < ROWS; ago++) {
                if (at(ago, 2) == person) {
                    found++;
                }
            }
            return found;
        }

        int latestDay(int person) {
            for (int ago = 0; ago < ROWS; ago++) {
                if (at(ago, 2) == person) {
                    return at(ago, 0);
                }
            }
            return NONE;
        }
    }

    /** The towers ahead of the latest acts, as a ring. */
    private static final class Past {
        private static final int ACTS = 12;

        private final Tower[] kept = new Tower[ACTS];
        private int next = 0;
        int many = 0;

        Past() {
            for (int i = 0; i < ACTS; i++) {
                kept[i] = new Tower();
            }
        }

        void forget() {
            many = 0;
        }

        void remember(Tower tower) {
            Tower slot = next >= 0 && next < ACTS ? kept[next] : null;
            if (slot != null) {
                slot.copyFrom(tower);
                next = (next + 1) % ACTS;
                many = Math.min(ACTS, many + 1);
            }
        }

        boolean recall(Tower tower) {
            int latest = (next + ACTS - 1) % ACTS;
            Tower slot = many > 0 && latest >= 0 && latest < ACTS ? kept[latest] : null;
            if (slot == null) {
                return false;
            }
            tower.copyFrom(slot);
            next = latest;
            many--;
            return true;
        }
    }

    /** How strength fades and comes back and how one drowses: lines, each with its condition as a row of steps. */
    private static final class Law {
        static final int LINES = 12;
        static final int FADE = 0;
        static final int MEND = 1;
        static final int DROWSE = 2;

        // steps below this are numbers themselves
        private static final int FIRST_STEP = 1000;
        static final int PERSON = 1000;
        static final int RING = 1001;
        static final int BORNE = 1002;
        static final int STRENGTH = 1003;
        static final int WEIGHT = 1004;
        static final int AWAKE = 1005;
        static final int HOUR = 1006;
        static final int ASLEEP = 1007;
        static final int DOWN = 1008;
        static final int TOP = 1009;
        static final int NOT = 1010;
        private static final int FIRST_OF_TWO = 1011;
        static final int AND = 1011;
        static final int OR = 1012;
        static final int PLUS = 1013;
        static final int LESS = 1014;
        static final int MORE = 1015;

        private static final int UNTOLD_FADE = 5;
        private static final int UNTOLD_MEND = 10;
        private static final int DEPTH = 64;

        boolean told = false;
        int lines = 0;
        private final int[] kinds = new int[LINES];
        private final int[] amounts = new int[LINES];
        private final int[] ends = new int[LINES];
        private final int[] steps = new int[Tape.BYTES];
        private int length = 0;
        private final int[] stack = new int[DEPTH];

        void copyFrom(Law other) {
            told = other.told;
            lines = other.lines;
            length = other.length;
            System.arraycopy(other.kinds, 0, kinds, 0, LINES);
            System.arraycopy(other.amounts, 0, amounts, 0, LINES);
            System.arraycopy(other.ends, 0, ends, 0, LINES);
            System.arraycopy(other.steps, 0, steps, 0, Tape.BYTES);
        }

        void clear() {
            told = true;
            lines = 0;
            length = 0;
        }

        /** A step of the line that is being read: each has a byte of the text of its own, so that there is room. */
        void addStep(int step) {
            if (length >= 0 && length < Tape.BYTES) {
                steps[length] = step;
                length++;
            }
        }

        void endLine(int kind, int amount) {
            if (lines >= 0 && lines < LINES) {
                kinds[lines] = kind;
                amounts[lines] = amount;
                ends[lines] = length;
                lines++;
            }
        }

        /** What one fades, mends or drowses by, as the tower is. */
        int amountOf(int kind, Tower tower, int person) {
            if (!told) {
                return untold(kind, tower, person);
            }
            int sum = 0;
            int from = 0;
            for (int i = 0; i < LINES && i < lines; i++) {
                if (kinds[i] == kind && holdsFor(tower, person, from, ends[i])) {
                    sum += amounts[i];
                }
                from = ends[i];
            }
            return sum;
        }

        private static int untold(int kind, Tower tower, int person) {
            if (kind == DROWSE) {
                return tower.awake[person];
            }
            if (has(tower.holders(), person)) {
                return kind == FADE ? UNTOLD_FADE : 0;
            }
            return kind == MEND ? UNTOLD_MEND : 0;
        }

        /** Whether the steps of a line end with a yes; a line without any always holds. */
        private boolean holdsFor(Tower tower, int person, int from, int to) {
            int high = 0;
            for (int i = Math.max(0, from); i < to && i < Tape.BYTES; i++) {
                int step = steps[i];
                if (step >= FIRST_OF_TWO) {
                    if (high >= 2 && high <= DEPTH) {
                        stack[high - 2] = ofTwo(step, stack[high - 2], stack[high - 1]);
                        high--;
                    }
                } else if (step == NOT) {
                    if (high >= 1 && high <= DEPTH) {
                        stack[high - 1] = 1 - stack[high - 1];
                    }
                } else if (high >= 0 && high < DEPTH) {
                    stack[high] = step < FIRST_STEP ? step : ofOne(step, tower, person);
                    high++;
                }
            }
            return high < 1 || stack[0] != 0;
        }

        private static int ofTwo(int step, int left, int right) {
            switch (step) {
                case AND: return left & right;
                case OR: return left | right;
                case PLUS: return left + right;
                case LESS: return left < right ? 1 : 0;
                default: return left > right ? 1 : 0;
            }
        }

        private static int ofOne(int step, Tower tower, int person) {
            boolean isUp = has(tower.up, person);
            switch (step) {
                case PERSON: return person;
                case RING: return isUp ? tower.ringOf[person] : 0;
                case BORNE: return tower.borne[person];
                case STRENGTH: return tower.strength[person];
                case WEIGHT: return tower.weight[person];
                case AWAKE: return tower.awake[person];
                case HOUR: return tower.hour;
                case ASLEEP: return has(tower.asleep, person) ? 1 : 0;
                case DOWN: return isUp ? 0 : 1;
                default: return has(tower.up & ~tower.trodden, person) ? 1 : 0;
            }
        }
    }

    /** The bytes that are fed, and how far a text of them has been read. */
    private static final class Tape {
        static final int BYTES = 400;
        private static final int FED = 20;
        private static final int BLANK = 32;
        private static final int DIGITS = 3;

        private final int[] bytes = new int[BYTES];
        int length = 0;
        /** Where the next thing to read begins. */
        int at = 0;
        /** The first wrong byte of the latest text that was read. */
        int fault = NONE;

        boolean hasRoom() {
            return length + FED <= BYTES;
        }

        void append(int number) {
            for (int shift = 24; shift >= 0; shift -= 8) {
                if (length >= 0 && length < BYTES) {
                    bytes[length] = number >>> shift & 255;
                    length++;
                }
            }
        }

        int byteAt(int index) {
            return index >= 0 && index < length && index < BYTES ? bytes[index] : NONE;
        }

        void rewind() {
            fault = NONE;
            moveTo(0);
        }

        /** Goes to the first thing from a byte on, or to the end. */
        private void moveTo(int from) {
            at = from;
            for (int i = from; i >= 0 && i < length && i < BYTES && bytes[i] == BLANK; i++) {
                at = i + 1;
            }
        }

        boolean ended() {
            return at >= length;
        }

        /** The text is wrong at a byte: always false, for those who read to hand back. */
        boolean wrong(int where) {
            if (fault == NONE) {
                fault = where;
            }
            return false;
        }

        private boolean isLetter(int index) {
            int sign = byteAt(index);
            return sign >= 'a' && sign <= 'z';
        }

        /** Goes behind a word, if it is the next thing, whole. */
        boolean takes(String word) {
            int letters = word.length();
            for (int i = 0; i < letters; i++) {
                if (byteAt(at + i) != word.charAt(i)) {
                    return false;
                }
            }
            int behind = byteAt(at + letters);
            if (behind >= 'a' && behind <= 'z') {
                return false;
            }
            moveTo(at + letters);
            return true;
        }

        /** Goes behind a word that must come. */
        boolean must(String word) {
            return takes(word) || wrong(at);
        }

        /** Goes behind a sign, if it is the next thing. */
        boolean takesSign(char sign) {
            if (byteAt(at) != sign) {
                return false;
            }
            moveTo(at + 1);
            return true;
        }

        /** Goes behind a sign that must come. */
        boolean mustSign(char sign) {
            return takesSign(sign) || wrong(at);
        }

        /** Goes behind a number that must come, within its bounds; NONE, if it is wrong. */
        int number(int least, int most) {
            int to = at;
            int value = 0;
            for (int i = at; i <= at + DIGITS; i++) {
                int digit = byteAt(i) - '0';
                if (digit < 0 || digit > 9) {
                    break;
                }
                value = value * 10 + digit;
                to = i + 1;
            }
            if (to == at || to > at + DIGITS || value < least || value > most) {
                wrong(at);
                return NONE;
            }
            moveTo(to);
            return value;
        }

        /** Goes behind a row of letters that must come, none twice, all of a set; 0, if it is wrong. */
        int letters(int of) {
            int set = 0;
            int to = at;
            for (int i = at; i < BYTES && isLetter(i); i++) {
                int one = byteAt(i) - 'a';
                if (one >= PEOPLE || has(set, one) || !has(of, one)) {
                    wrong(at);
                    return 0;
                }
                set |= bit(one);
                to = i + 1;
            }
            if (set == 0) {
                wrong(at);
            }
            moveTo(to);
            return set;
        }
    }

    /** Reads a text of THE TOWER into a tower. */
    private static final class TowerText {
        private static final int LINES = 14;
        private static final int MOST_WEIGHT = 99;
        private static final int MOST_HOUR = 23;
        private static final int MOST_TOLD_DAY = 999;

        private TowerText() {
        }

        static boolean read(Tape tape, Tower tower) {
            tape.rewind();
            boolean more = !tape.ended();
            for (int line = 0; line < LINES && more; line++) {
                if (!readLine(tape, tower)) {
                    return false;
                }
                more = !tape.ended();
                if (more && !tape.mustSign(';')) {
                    return false;
                }
            }
            if (more) {
                return tape.wrong(tape.at);
            }
            tower.settle();
            return tower.stands(tower.up, tower.asleep) || tape.wrong(tape.length);
        }

        private static boolean readLine(Tape tape, Tower tower) {
            int begin = tape.at;
            if (tape.takes("person")) {
                return tower.people < PEOPLE ? readPerson(tape, tower) : tape.wrong(begin);
            }
            if (tape.takes("up")) {
                return readUp(tape, tower);
            }
            if (tape.takes("asleep")) {
                return readAsleep(tape, tower);
            }
            if (tape.takes("need")) {
                tower.need = tape.number(0, MOST_NEED);
                return tower.need != NONE;
            }
            if (tape.takes("hour")) {
                tower.hour = tape.number(0, MOST_HOUR);
                return tower.hour != NONE;
            }
            if (tape.takes("day")) {
                tower.day = tape.number(0, MOST_TOLD_DAY);
                return tower.day != NONE;
            }
            return tape.wrong(begin);
        }

        private static boolean readPerson(Tape tape, Tower tower) {
            if (!tape.must("weight")) {
                return false;
            }
            int weight = tape.number(1, MOST_WEIGHT);
            if (weight == NONE || !tape.must("full")) {
                return false;
            }
            int full = tape.number(0, MOST_FULL);
            if (full == NONE) {
                return false;
            }
            tower.addPerson(weight, full);
            return true;
        }

        private static boolean readUp(Tape tape, Tower tower) {
            int begin = tape.at;
            int person = tape.number(0, tower.people - 1);
            if (person == NONE) {
                return false;
            }
            if (!tower.isPerson(person) || has(tower.up, person)) {
                return tape.wrong(begin);
            }
            if (!tape.must("ring")) {
                return false;
            }
            int ring = tape.number(0, RINGS - 1);
            if (ring == NONE) {
                return false;
            }
            int under = 0;
            if (ring > 0) {
                under = tape.must("on") ? tape.letters(tower.inRing(ring - 1)) : 0;
                if (under == 0) {
                    return false;
                }
            }
            tower.bringUp(person, ring, under);
            return true;
        }

        private static boolean readAsleep(Tape tape, Tower tower) {
            int begin = tape.at;
            int person = tape.number(0, tower.people - 1);
            if (person == NONE) {
                return false;
            }
            if (has(tower.asleep, person)) {
                return tape.wrong(begin);
            }
            tower.asleep |= bit(person);
            return true;
        }
    }

    /** Reads a text of THE LAW into a law; how deep it is in ( and not is carried along. */
    private static final class LawText {
        private static final int MOST_AMOUNT = 100;
        private static final int MOST_NUMBER = 999;
        private static final int MOST_DEEP = 6;

        private LawText() {
        }

        static boolean read(Tape tape, Law law) {
            tape.rewind();
            law.clear();
            boolean more = !tape.ended();
            for (int line = 0; line < Law.LINES && more; line++) {
                if (!readLine(tape, law)) {
                    return false;
                }
                more = !tape.ended();
                if (more && !tape.mustSign(';')) {
                    return false;
                }
            }
            return !more || tape.wrong(tape.at);
        }

        private static boolean readLine(Tape tape, Law law) {
            int kind = tape.takes("fade") ? Law.FADE
                    : tape.takes("mend") ? Law.MEND
                    : tape.takes("drowse") ? Law.DROWSE
                    : NONE;
            if (kind == NONE) {
                return tape.wrong(tape.at);
            }
            int amount = tape.number(0, MOST_AMOUNT);
            if (amount == NONE) {
                return false;
            }
            if (tape.takes("if") && !readAny(tape, law, 0)) {
                return false;
            }
            law.endLine(kind, amount);
            return true;
        }

        private static boolean readAny(Tape tape, Law law, int deep) {
            if (!readAll(tape, law, deep)) {
                return false;
            }
            for (int i = 0; i < Tape.BYTES && tape.takes("or"); i++) {
                if (!readAll(tape, law, deep)) {
                    return false;
                }
                law.addStep(Law.OR);
            }
            return true;
        }

        private static boolean readAll(Tape tape, Law law, int deep) {
            if (!readAtom(tape, law, deep)) {
                return false;
            }
            for (int i = 0; i < Tape.BYTES && tape.takes("and"); i++) {
                if (!readAtom(tape, law, deep)) {
                    return false;
                }
                law.addStep(Law.AND);
            }
            return true;
        }

        private static boolean readAtom(Tape tape, Law law, int deep) {
            int begin = tape.at;
            if (tape.takes("not")) {
                if (deep >= MOST_DEEP) {
                    return tape.wrong(begin);
                }
                boolean right = readAtom(tape, law, deep + 1);
                law.addStep(Law.NOT);
                return right;
            }
            if (tape.takesSign('(')) {
                if (deep >= MOST_DEEP) {
                    return tape.wrong(begin);
                }
                return readAny(tape, law, deep + 1) && tape.mustSign(')');
            }
            int step = tape.takes("asleep") ? Law.ASLEEP
                    : tape.takes("down") ? Law.DOWN
                    : tape.takes("top") ? Law.TOP
                    : NONE;
            if (step != NONE) {
                law.addStep(step);
                return true;
            }
            if (!readSum(tape, law)) {
                return false;
            }
            boolean less = tape.takesSign('<');
            if (!less && !tape.mustSign('>')) {
                return false;
            }
            boolean right = readSum(tape, law);
            law.addStep(less ? Law.LESS : Law.MORE);
            return right;
        }

        private static boolean readSum(Tape tape, Law law) {
            if (!readPart(tape, law)) {
                return false;
            }
            for (int i = 0; i < Tape.BYTES && tape.takesSign('+'); i++) {
                if (!readPart(tape, law)) {
                    return false;
                }
                law.addStep(Law.PLUS);
            }
            return true;
        }

        private static boolean readPart(Tape tape, Law law) {
            int step = tape.takes("person") ? Law.PERSON
                    : tape.takes("ring") ? Law.RING
                    : tape.takes("borne") ? Law.BORNE
                    : tape.takes("strength") ? Law.STRENGTH
                    : tape.takes("weight") ? Law.WEIGHT
                    : tape.takes("awake") ? Law.AWAKE
                    : tape.takes("hour") ? Law.HOUR
                    : tape.number(0, MOST_NUMBER);
            law.addStep(step);
            return step != NONE;
        }
    }

    /** Told reliefs: nobody is told twice, so that what stands after some of them is the same in any order. */
    private static final class Reliefs {
        private static final int ROWS = 4;

        private final int[] outs = new int[ROWS];
        private final int[] ins = new int[ROWS];
        /** Of each set of rows that have been: whether the others can be, one behind another. */
        private final boolean[] goesOn = new boolean[1 << ROWS];
        private int many = 0;

        boolean read(Tape tape, int people) {
            many = 0;
            if (tape.length > 2 * ROWS || tape.length % 2 != 0) {
                return false;
            }
            int told = 0;
            for (int i = 0; i < 2 * ROWS; i++) {
                if (i < tape.length) {
                    int person = tape.byteAt(i);
                    if (person < 0 || person >= people || has(told, person)) {
                        return false;
                    }
                    told |= bit(person);
                    tellOne(i, person);
                }
            }
            many = tape.length / 2;
            return true;
        }

        private void tellOne(int place, int person) {
            int row = place / 2;
            if (row < 0 || row >= ROWS) {
                return;
            }
            if (place % 2 == 0) {
                outs[row] = person;
            } else {
                ins[row] = person;
            }
        }

        /** Whether the tower stands when these rows have been. */
        private boolean standsAfter(int rows, Tower now, Tower trial) {
            trial.copyFrom(now);
            for (int row = 0; row < ROWS; row++) {
                if (has(rows, row)) {
                    if (!trial.canSwap(outs[row], ins[row])) {
                        return false;
                    }
                    trial.swap(outs[row], ins[row]);
                }
            }
            return trial.stands(trial.up, trial.asleep);
        }

        int firstRows(Tower now, Tower trial) {
            int set = 0;
            for (int row = 0; row < ROWS; row++) {
                if (row < many && standsAfter(bit(row), now, trial)) {
                    set |= bit(row);
                }
            }
            return set;
        }

        /** The k-th row of the first order of all, or NONE. */
        int rowOf(int k, Tower now, Tower trial) {
            if (k < 0 || k >= many) {
                return NONE;
            }
            findGoesOn(now, trial);
            if (!goesOn[0]) {
                return NONE;
            }
            int done = 0;
            int row = NONE;
            for (int place = 0; place <= k; place++) {
                row = nextRow(done);
                done |= bit(row);
            }
            return row;
        }

        private void findGoesOn(Tower now, Tower trial) {
            int all = bit(many) - 1;
            for (int set = goesOn.length - 1; set >= 0; set--) {
                goesOn[set] = within(set, all)
                        && (set == all || nextRow(set) != NONE)
                        && standsAfter(set, now, trial);
            }
        }

        /** The least row that can be behind these so that the others can be behind it, or NONE. */
        private int nextRow(int done) {
            for (int row = 0; row < ROWS; row++) {
                int with = done | bit(row);
                if (!has(done, row) && row < many && with < goesOn.length && goesOn[with]) {
                    return row;
                }
            }
            return NONE;
        }
    }

    /** What one can know by one's own shoulders: the sets of sleepers by which one would bear as now. */
    private static final class Senses {
        private static final int MOST_BORNE = PEOPLE * 99;

        private final int[] sets = new int[SETS];
        /** Of each of these sets, what each person would bear. */
        private final int[] bears = new int[SETS * PEOPLE];
        private final int[] trial = new int[PEOPLE];
        private final int[] parts = new int[MOST_BORNE + 1];
        int many = 0;

        /** The sets that feel the same to one and to another one (who may be the same). */
        void gather(Tower tower, int one, int other) {
            many = 0;
            int others = tower.up & ~bit(one) & ~bit(other);
            for (int set = 0; set < SETS; set++) {
                if (within(set, others) && tower.hanging(tower.up, set) == 0) {
                    tower.carry(tower.up, set, trial);
                    if (trial[one] == tower.borne[one] && trial[other] == tower.borne[other]) {
                        keep(set);
                    }
                }
            }
        }

        private void keep(int set) {
            if (many >= 0 && many < SETS) {
                sets[many] = set;
                System.arraycopy(trial, 0, bears, many * PEOPLE, PEOPLE);
                many++;
            }
        }

        int asleepInAll() {
            int common = SETS - 1;
            for (int i = 0; i < SETS; i++) {
                common &= i < many ? sets[i] : SETS - 1;
            }
            return common;
        }

        int asleepInSome() {
            int some = 0;
            for (int i = 0; i < SETS; i++) {
                some |= i < many ? sets[i] : 0;
            }
            return some;
        }

        int bestToAsk(int candidates) {
            int best = NONE;
            int least = 0;
            for (int i = 0; i < PEOPLE; i++) {
                if (many >= 2 && has(candidates, i)) {
                    int greatest = greatestPart(i);
                    if (best == NONE || greatest < least) {
                        best = i;
                        least = greatest;
                    }
                }
            }
            return best;
        }

        private int greatestPart(int asked) {
            for (int i = 0; i <= MOST_BORNE; i++) {
                parts[i] = 0;
            }
            int greatest = 0;
            for (int i = 0; i < SETS; i++) {
                int bore = i < many ? bears[i * PEOPLE + asked] : NONE;
                if (bore >= 0 && bore <= MOST_BORNE) {
                    parts[bore]++;
                    greatest = Math.max(greatest, parts[bore]);
                }
            }
            return greatest;
        }
    }

    /** Who touches whom, and how a push goes on from one who holds to the next. */
    private static final class Touch {
        private Touch() {
        }

        /** Those that these people touch. */
        private static int touched(Tower tower, int set) {
            int found = 0;
            for (int i = 0; i < PEOPLE; i++) {
                if (has(set, i)) {
                    found |= tower.on[i];
                }
                if ((tower.on[i] & set) != 0) {
                    found |= bit(i);
                }
            }
            return found;
        }

        /** How many pushes till all of some are reached from one, by those who hold alone; NONE. */
        static int steps(Tower tower, int from, int aims) {
            int holders = tower.holders();
            int known = bit(from) & holders;
            for (int step = 0; step < PEOPLE; step++) {
                if (known != 0 && within(aims, known)) {
                    return step;
                }
                known |= touched(tower, known) & holders;
            }
            return NONE;
        }

        /** All that are reached from one over these. */
        static int reached(Tower tower, int from, int over) {
            int known = bit(from) & over;
            for (int step = 0; step < PEOPLE; step++) {
                known |= touched(tower, known) & over;
            }
            return known;
        }
    }

    /** Rosters by which nobody stands twice running, of the fewest places. */
    private static final class Roster {
        static final int MOST_HOURS = 12;
        /** More than the places of any roster. */
        static final int NO_WAY = 10000;

        private final int[] sums = new int[SETS];
        /** Of so many hours left, and of a set that may stand in the first of them: the fewest places (of no hours 0). */
        private final int[] fewest = new int[(MOST_HOURS + 1) * SETS];
        private int everyone = 0;

        /** The fewest places of so many hours with fulls of x at least, by these people; NONE. */
        int places(int[] full, int people, int hours, int x) {
            everyone = people & SETS - 1;
            sumUp(full);
            for (int rest = 1; rest <= MOST_HOURS && rest <= hours; rest++) {
                fillHour(rest, x);
            }
            int places = fewestOf(hours, everyone);
            return places < NO_WAY ? places : NONE;
        }

        private void sumUp(int[] full) {
            for (int set = 0; set < SETS; set++) {
                sums[set] = 0;
                for (int i = 0; i < PEOPLE; i++) {
                    sums[set] += has(set, i) ? full[i] : 0;
                }
            }
        }

        private void fillHour(int rest, int x) {
            for (int set = 0; set < SETS; set++) {
                fewest[rest * SETS + set] = costOf(set, rest, x);
            }
            // a set may stand whole or in part: the fewest of all its parts
            for (int i = 0; i < PEOPLE; i++) {
                for (int set = 0; set < SETS; set++) {
                    if (has(set, i)) {
                        int at = rest * SETS + set;
                        fewest[at] = Math.min(fewest[at], fewestOf(rest, set & ~bit(i)));
                    }
                }
            }
        }

        private int fewestOf(int rest, int set) {
            int index = rest * SETS + set;
            return index >= 0 && index < fewest.length ? fewest[index] : NO_WAY;
        }

        /** The places of so many hours, if just this set stands in the first of them. */
        private int costOf(int set, int rest, int x) {
            if (!within(set, everyone) || set < 0 || set >= SETS || sums[set] < x) {
                return NO_WAY;
            }
            return Integer.bitCount(set) + fewestOf(rest - 1, everyone & ~set);
        }

        /** The set of the k-th hour in the first roster of the fewest places; places() goes ahead of it. */
        int setOf(int k, int hours, int x) {
            int may = everyone;
            int chosen = NONE;
            for (int hour = 0; hour <= k && hour < hours; hour++) {
                chosen = leastSet(may, hours - hour, x);
                may = everyone & ~chosen;
            }
            return chosen;
        }

        private int leastSet(int may, int rest, int x) {
            int aim = fewestOf(rest, may);
            for (int set = 0; set < SETS; set++) {
                if (within(set, may) && costOf(set, rest, x) == aim) {
                    return set;
                }
            }
            return NONE;
        }
    }
}
