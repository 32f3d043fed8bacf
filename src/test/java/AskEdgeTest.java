/** The edges that the document's part 3 and the promises 7, 16 to 55 and 61 name: what is asked of the tower. */
public final class AskEdgeTest extends Checks {
    /** 2 ON 0 and 1, who bear 20 each. */
    private static final String ARCH = "person weight 10 full 100;person weight 10 full 100;person weight 40 full 100;"
            + "up 0 ring 0;up 1 ring 0;up 2 ring 1 on ab";
    /** 1 ON 0, 2 ON 1; 3 is a reserve. */
    private static final String COLUMN = "person weight 10 full 100;person weight 20 full 100;"
            + "person weight 30 full 100;person weight 5 full 40;up 0 ring 0;up 1 ring 1 on a;up 2 ring 2 on b";
    private static final String NOBODY_UP = "person weight 9 full 99;person weight 9 full 99";

    public static void main(String[] args) {
        run("person: what 0 to 13", AskEdgeTest::persons);
        run("SHARE in hundredths, rounded down, 0 without", AskEdgeTest::shares);
        run("TOTAL and GROUND of none", AskEdgeTest::totals);
        run("HEIGHT 0 to 5", AskEdgeTest::heights);
        run("SPARE 0 of one that does not HOLD", AskEdgeTest::spares);
        run("WEAKEST: of several the least, none", AskEdgeTest::weakest);
        run("MORE 0 to 99", AskEdgeTest::moreBounds);
        run("MORE so that nobody GIVES WAY", AskEdgeTest::moreBorne);
        run("OUTS", AskEdgeTest::outs);
        run("SLEEPS", AskEdgeTest::sleeps);
        run("FALLS and ROUNDS", AskEdgeTest::falls);
        run("the K-TH", AskEdgeTest::kth);
        run("KEY: of several the least", AskEdgeTest::keys);
        run("PILLARS: the empty one, too", AskEdgeTest::pillars);
        run("LEFT: of several the least", AskEdgeTest::left);
        run("LEFT: somebody in the uppermost RING", AskEdgeTest::leftTop);
        run("GUARD: at most 4 rows", AskEdgeTest::guardRows);
        run("GUARD: the k-th row, none", AskEdgeTest::guardKth);
        run("GUARD: the first such order", AskEdgeTest::guardOrder);
        run("GUARD: the TAPE", AskEdgeTest::guardTape);
        run("SOLO", AskEdgeTest::solo);
        run("FEELS: itself as it is", AskEdgeTest::feels);
        run("FEELS: nobody HANGS", AskEdgeTest::feelsHang);
        run("SURE and FREE", AskEdgeTest::sureFree);
        run("BOTH", AskEdgeTest::both);
        run("ASK: of several the least", AskEdgeTest::ask);
        run("ASK: none", AskEdgeTest::askNone);
        run("PUSHES", AskEdgeTest::pushes);
        run("TELL", AskEdgeTest::tell);
        run("HERALD: of several the least", AskEdgeTest::herald);
        run("CUTS", AskEdgeTest::cuts);
        run("ROSTER: N 1 to 12, X 0 to 999", AskEdgeTest::rosterBounds);
        run("ROSTER: X at least", AskEdgeTest::rosterAtLeast);
        run("ROSTER: the k-th HOUR", AskEdgeTest::rosterKth);
        run("ROSTER: nobody twice running", AskEdgeTest::rosterTwice);
        run("ROSTER: the first", AskEdgeTest::rosterFirst);
        run("PAIRS: X at least", AskEdgeTest::pairs);
        run("DEAREST: none is more than all", AskEdgeTest::dearestNone);
        run("DEAREST: of several the least", AskEdgeTest::dearest);
        run("RESTS", AskEdgeTest::rests);
        run("ODDS: N 0 to 4", AskEdgeTest::oddsBounds);
        run("ODDS: 100 at most, rounded down", AskEdgeTest::odds);
        run("ALONE", AskEdgeTest::alone);
        run("TIRED: of several the least, none if 0", AskEdgeTest::tired);
        run("TWINS", AskEdgeTest::twins);
        run("THOSE of RING 0 to 4", AskEdgeTest::rings);
        run("RESERVES and SLEEPERS", AskEdgeTest::reserves);
        run("SOON: fewer than NEED", AskEdgeTest::soonNeed);
        run("SOON: 0 to 60", AskEdgeTest::soonBounds);
        run("AHEAD: 0 to 60", AskEdgeTest::ahead);
        run("TRIAL: 0 to 60", AskEdgeTest::trial);
        run("SPAN: 0 to 60", AskEdgeTest::span);
        run("LED", AskEdgeTest::led);
        run("COUNT 0 to 10", AskEdgeTest::counts);
        end("AskEdgeTest");
    }

    /** Eight people, of these numbers in RING 0 and those in RING 1, each ON the two beside it: one long path. */
    private static WakeTower path() {
        return told(people(8, 1, 99) + "up 0 ring 0;up 2 ring 0;up 4 ring 0;up 6 ring 0",
                "up 1 ring 1 on ac;up 3 ring 1 on ce;up 5 ring 1 on eg;up 7 ring 1 on g");
    }

    // ---- one person, and all

    private static void persons() {
        WakeTower x = told(COLUMN);
        due("what 13", x.person(3, 13), 0);
        fails("what 14", ELEMENT, () -> x.person(3, 14));
        fails("what -1", ELEMENT, () -> x.person(3, -1));
        fails("what MAX", ELEMENT, () -> x.person(3, Integer.MAX_VALUE));
        fails("what MIN", ELEMENT, () -> x.person(3, Integer.MIN_VALUE));
        fails("person 4", INDEX, () -> x.person(4, 0));
        fails("person -1", INDEX, () -> x.person(-1, 0));
        fails("person 4, what 14: the one told first", INDEX, () -> x.person(4, 14));
        fails("person MAX", INDEX, () -> x.person(Integer.MAX_VALUE, 0));
        fails("person MIN", INDEX, () -> x.person(Integer.MIN_VALUE, 0));
        due("RING of one UP", x.person(0, 6), 0);
        due("RING of one DOWN", x.person(3, 6), NONE);
    }

    private static void shares() {
        WakeTower x = told(people(3, 1, 99) + person(2, 9) + "up 0 ring 0;up 1 ring 0;up 2 ring 0;up 3 ring 1 on ab");
        due("1 of 2", x.person(0, 13), 50);
        due("0 of 2", x.person(2, 13), 0);
        due("of one above", x.person(3, 13), 0);
        WakeTower y = told(people(3, 1, 99) + person(3, 9) + "up 0 ring 0;up 1 ring 0;up 2 ring 0;up 3 ring 1 on abc");
        due("1 of 3", y.person(0, 13), 33);
        y.lean(3, 3);
        due("2 of 3", y.person(0, 13), 66);
        y.lean(3, 1);
        due("3 of 3", y.person(0, 13), 100);
        y.out(3);
        due("nobody bears: 0", y.person(0, 13), 0);
        due("of a reserve", y.person(3, 13), 0);
        WakeTower one = told(people(2, 1, 99) + "up 0 ring 0;up 1 ring 1 on a");
        due("1 of 1", one.person(0, 13), 100);
    }

    private static void totals() {
        for (WakeTower x : new WakeTower[] {new WakeTower(), told(NOBODY_UP)}) {
            due("TOTAL", x.total(), 0);
            due("GROUND", x.ground(), 0);
            due("HEIGHT", x.height(), 0);
        }
        WakeTower x = told(people(8, 99, 999) + "up 0 ring 0;up 1 ring 1 on a;up 2 ring 2 on b;up 3 ring 3 on c",
                "up 4 ring 4 on d;up 5 ring 4 on d;up 6 ring 4 on d;up 7 ring 4 on d");
        due("eight of 99", x.total(), 792);
        due("GROUND", x.ground(), 792);
        due("what the lowest bears", x.person(0, 8), 693);
    }

    private static void heights() {
        WakeTower x = told(people(5, 9, 99));
        for (int ring = 0; ring < 5; ring++) {
            due("HEIGHT", x.height(), ring);
            x.rise(ring, ring, ring == 0 ? 0 : 1 << ring - 1);
        }
        due("HEIGHT", x.height(), 5);
        x.sleep(4);
        due("with a sleeper", x.height(), 5);
        x.out(4);
        due("without", x.height(), 4);
    }

    private static void spares() {
        WakeTower x = told(person(9, 20) + person(20, 5) + person(9, 9) + "up 0 ring 0;up 1 ring 1 on a");
        due("just borne", x.person(0, 12), 0);
        due("all of it", x.person(1, 12), 5);
        due("of one DOWN", x.person(2, 12), 0);
        x.sleep(1);
        due("of a sleeper", x.person(1, 12), 0);
    }

    private static void weakest() {
        due("none", new WakeTower().weakest(), NONE);
        due("nobody UP", told(NOBODY_UP).weakest(), NONE);
        due("sleepers alone", told(NOBODY_UP, "up 0 ring 0;asleep 0").weakest(), NONE);
        due("one", told(NOBODY_UP, "up 1 ring 0").weakest(), 1);
        due("of several the least", told(people(3, 9, 50) + "up 0 ring 0;up 1 ring 0;up 2 ring 0").weakest(), 0);
        due("1 less", told(people(2, 9, 50) + person(9, 49) + "up 0 ring 0;up 1 ring 0;up 2 ring 0").weakest(), 2);
        due("by SPARE, not by STRENGTH", told(person(9, 49) + person(9, 50) + person(2, 60)
                + "up 0 ring 0;up 1 ring 0;up 2 ring 1 on b").weakest(), 1);
        due("of like SPARE the least", told(person(9, 48) + person(9, 50) + person(2, 60)
                + "up 0 ring 0;up 1 ring 0;up 2 ring 1 on b").weakest(), 0);
    }

    private static void moreBounds() {
        for (int more : new int[] {0, 1, 97, 98, 99}) {
            WakeTower x = told(person(9, 20 + more) + person(20, 9) + "up 0 ring 0;up 1 ring 1 on a");
            due("MORE " + more, x.more(1), more);
        }
        WakeTower x = told(person(9, 120) + person(20, 9) + "up 0 ring 0;up 1 ring 1 on a");
        due("99 at most", x.more(1), 99);
        due("in RING 0: 99", x.more(0), 99);
        due("WEIGHT as it was", x.person(1, 0), 20);
        due("BORNE as it was", x.person(0, 8), 20);
        x.sleep(1);
        due("of a sleeper", x.more(1), 99);
        x.out(1);
        fails("DOWN", STATE, () -> x.more(1));
        fails("no such person", INDEX, () -> x.more(2));
        fails("no such person", INDEX, () -> x.more(-1));
    }

    private static void moreBorne() {
        // 0 and 1 share: 0 has the odd one; 5 and 5, 6 and 5, 6 and 6
        WakeTower even = told(person(9, 6) + person(9, 5) + person(10, 9) + "up 0 ring 0;up 1 ring 0;up 2 ring 1 on ab");
        due("6 and 5", even.more(2), 1);
        WakeTower odd = told(person(9, 5) + person(9, 9) + person(10, 9) + "up 0 ring 0;up 1 ring 0;up 2 ring 1 on ab");
        due("5 and 5", odd.more(2), 0);
        // the second one below is what gives way
        WakeTower low = told(person(9, 57) + person(20, 99) + person(30, 9) + "up 0 ring 0;up 1 ring 1 on a;up 2 ring 2 on b");
        due("by the lowest", low.more(2), 7);
        due("of the middle", low.more(1), 7);
    }

    private static void outs() {
        due("none", new WakeTower().outs(), 0);
        due("nobody UP", told(NOBODY_UP).outs(), 0);
        due("all in RING 0", told(NOBODY_UP, "up 0 ring 0;up 1 ring 0").outs(), 3);
        due("the top alone", told(COLUMN).outs(), 4);
        for (int full = 39; full <= 40; full++) {
            WakeTower x = told(person(9, 40) + person(9, full) + person(40, 9) + "up 0 ring 0;up 1 ring 0;up 2 ring 1 on ab");
            due("1 could bear all, or not", x.outs(), full == 40 ? 7 : 6);
        }
        due("one of two that sleeps", told(ARCH, "asleep 0").outs(), 5);
    }

    private static void sleeps() {
        due("none", new WakeTower().sleeps(), 0);
        due("nobody UP", told(NOBODY_UP).sleeps(), 0);
        due("the top alone", told(COLUMN).sleeps(), 4);
        for (int full = 39; full <= 40; full++) {
            WakeTower x = told(person(9, 40) + person(9, full) + person(40, 9) + "up 0 ring 0;up 1 ring 0;up 2 ring 1 on ab");
            due("1 could bear all, or not", x.sleeps(), full == 40 ? 7 : 6);
        }
        due("not who sleeps, not the last below", told(ARCH, "asleep 0").sleeps(), 4);
        due("none", told(ARCH, "asleep 0;asleep 2").sleeps(), 0);
    }

    // ---- falls of one

    /** 3 ON 2, 2 ON 0 and 1, of whom 1 cannot bear all: without 0 fall 1, then 2, then 3. */
    private static WakeTower chain() {
        return told(person(9, 90) + person(9, 30) + person(20, 90) + person(20, 90) + person(9, 9) + person(9, 9)
                + "up 0 ring 0;up 1 ring 0;up 2 ring 1 on ab;up 3 ring 2 on c;up 4 ring 0");
    }

    private static void falls() {
        WakeTower x = chain();
        int[] falls = {4, 1, 2, 1, 1};
        int[] rounds = {3, 0, 1, 0, 0};
        for (int i = 0; i < 5; i++) {
            due("falls(" + i + ")", x.falls(i), falls[i]);
            due("rounds(" + i + ")", x.rounds(i), rounds[i]);
        }
        fails("falls of one DOWN", STATE, () -> x.falls(5));
        fails("rounds of one DOWN", STATE, () -> x.rounds(5));
        fails("no such person", INDEX, () -> x.falls(6));
        fails("no such person", INDEX, () -> x.rounds(6));
        fails("no such person", INDEX, () -> x.falls(-1));
        fails("no such person", INDEX, () -> x.rounds(-1));
        // 40 on 1 alone: 40 of STRENGTH stand, 39 fall
        for (int full = 39; full <= 40; full++) {
            WakeTower y = told(person(9, 40) + person(9, full) + person(40, 9) + "up 0 ring 0;up 1 ring 0;up 2 ring 1 on ab");
            due("FALLS", y.falls(0), full == 40 ? 1 : 3);
            due("ROUNDS", y.rounds(0), full == 40 ? 0 : 2);
        }
        WakeTower all = told(people(8, 1, 99) + "up 0 ring 0;up 1 ring 1 on a;up 2 ring 2 on b;up 3 ring 3 on c",
                "up 4 ring 4 on d;up 5 ring 4 on d;up 6 ring 4 on d;up 7 ring 4 on d");
        due("all eight", all.falls(0), 8);
        due("in four rounds", all.rounds(0), 4);
        due("the last one", all.fallen(0, 7), 7);
        due("no more", all.fallen(0, 8), NONE);
        due("nothing fell", all.count(9), 0);
        due("of one that sleeps", told(COLUMN, "asleep 2").falls(2), 1);
    }

    private static void kth() {
        WakeTower x = chain();
        int[] order = {0, 1, 2, 3, NONE};
        for (int k = 0; k < order.length; k++) {
            due("fallen(0, " + k + ")", x.fallen(0, k), order[k]);
        }
        due("fallen(0, -1)", x.fallen(0, -1), NONE);
        due("fallen(0, MIN)", x.fallen(0, Integer.MIN_VALUE), NONE);
        due("fallen(0, MAX)", x.fallen(0, Integer.MAX_VALUE), NONE);
        due("0 itself", x.fallen(4, 0), 4);
        due("alone", x.fallen(4, 1), NONE);
        fails("DOWN", STATE, () -> x.fallen(5, 0));
        fails("DOWN, no such k", STATE, () -> x.fallen(5, -1));
        fails("no such person", INDEX, () -> x.fallen(6, 0));
        // by numbers in a round: 3 and 1 hang without 2, then 0, ON 3
        WakeTower y = told(people(4, 1, 99) + "up 2 ring 0;up 3 ring 1 on c;up 1 ring 1 on c;up 0 ring 2 on d");
        due("2, 1, 3, 0", y.fallen(2, 0) * 1000 + y.fallen(2, 1) * 100 + y.fallen(2, 2) * 10 + y.fallen(2, 3), 2130);
    }

    private static void keys() {
        due("none", new WakeTower().key(), NONE);
        due("nobody UP", told(NOBODY_UP).key(), NONE);
        due("of several the least", told(NOBODY_UP, "up 0 ring 0;up 1 ring 0").key(), 0);
        due("one alone", told(NOBODY_UP, "up 1 ring 0").key(), 1);
        due("the most", told(people(3, 1, 99) + "up 0 ring 0;up 1 ring 0;up 2 ring 1 on b").key(), 1);
        due("two with the most", told(people(4, 1, 99) + "up 0 ring 0;up 1 ring 0;up 2 ring 1 on b;up 3 ring 1 on a").key(), 0);
        due("a sleeper whom nobody is ON", told(NOBODY_UP, "up 1 ring 0;asleep 1").key(), 1);
    }

    private static void pillars() {
        due("nobody: the empty set", new WakeTower().pillars(), 1);
        due("nobody UP", told(NOBODY_UP).pillars(), 1);
        due("one", told(NOBODY_UP, "up 1 ring 0").pillars(), 2);
        due("all of two", told(NOBODY_UP, "up 0 ring 0;up 1 ring 0").pillars(), 4);
        due("a column of three", told(COLUMN).pillars(), 4);
        WakeTower eight = told(people(8, 1, 99) + "up 0 ring 0;up 1 ring 0;up 2 ring 0;up 3 ring 0",
                "up 4 ring 0;up 5 ring 0;up 6 ring 0;up 7 ring 0");
        due("all of eight", eight.pillars(), 256);
        for (int full = 39; full <= 40; full++) {
            // with 2: without 0, without 1 if 40 can be borne; without 2: any of 0, 1
            WakeTower x = told(person(9, full) + person(9, full) + person(40, 9) + "up 0 ring 0;up 1 ring 0;up 2 ring 1 on ab");
            due("1 and 4, 2 more", x.pillars(), full == 40 ? 7 : 5);
        }
    }

    private static void left() {
        due("none", new WakeTower().left(), 0);
        due("nobody UP", told(NOBODY_UP).left(), 0);
        due("one", told(NOBODY_UP, "up 1 ring 0").left(), 2);
        due("of several the least", told(NOBODY_UP, "up 0 ring 0;up 1 ring 0").left(), 1);
        due("of two ways the least", told(ARCH).left(), 5);
        for (int full = 39; full <= 40; full++) {
            WakeTower x = told(person(9, full) + person(9, 40) + person(40, 9) + "up 0 ring 0;up 1 ring 0;up 2 ring 1 on ab");
            due("one that can bear all", x.left(), full == 40 ? 5 : 6);
        }
        WakeTower both = told(person(9, 39) + person(9, 39) + person(40, 9) + "up 0 ring 0;up 1 ring 0;up 2 ring 1 on ab");
        due("all, if none can bear all", both.left(), 7);
        due("a sleeper bears nobody", told(ARCH, "asleep 0").left(), 6);
    }

    private static void leftTop() {
        due("all of a column", told(COLUMN).left(), 7);
        // the uppermost RING of now is 1: 0 alone is not enough, and 3 needs 1
        due("the other top", told(people(4, 9, 99) + person(9, 9) + "up 0 ring 0;up 1 ring 0;up 3 ring 1 on b;up 2 ring 0").left(), 10);
        due("of two tops the less", told(people(4, 9, 99) + "up 0 ring 0;up 1 ring 0;up 2 ring 1 on b;up 3 ring 1 on a").left(), 6);
        due("the least set as bits", told(people(4, 9, 99) + "up 0 ring 0;up 1 ring 0;up 2 ring 1 on a;up 3 ring 1 on a").left(), 5);
        due("a sleeper may be it", told(NOBODY_UP, "up 0 ring 0;asleep 0").left(), 1);
    }

    // ---- told reliefs

    private static WakeTower eight() {
        return told(people(8, 1, 9) + "up 0 ring 0;up 2 ring 0;up 4 ring 0;up 6 ring 0");
    }

    private static int guard(WakeTower x, int k, int... people) {
        rows(x, people);
        return x.guard(k);
    }

    private static void guardRows() {
        WakeTower x = eight();
        due("no rows", guard(x, 0), NONE);
        due("one row", guard(x, 0, 0, 1), 0);
        due("four rows", guard(x, 3, 0, 1, 2, 3, 4, 5, 6, 7), 3);
        rows(x, 0, 1, 2, 3, 4, 5, 6, 7, 0, 1);
        fails("five rows", ARGUMENT, () -> x.guard(0));
        rows(x, 0, 1, 2, 3, 4, 5, 6, 7, 0);
        fails("four and a half", ARGUMENT, () -> x.guard(0));
        rows(x, 0);
        fails("half a row", ARGUMENT, () -> x.guard(0));
        rows(x, 0, 1, 2);
        fails("one and a half", ARGUMENT, () -> x.guard(0));
        due("nothing changed", x.count(6), 85);
        due("no act", x.count(10), 0);
    }

    private static void guardKth() {
        WakeTower x = eight();
        for (int k = 0; k < 4; k++) {
            due("the first order is that told", guard(x, k, 0, 1, 2, 3, 4, 5, 6, 7), k);
        }
        due("k 4", guard(x, 4, 0, 1, 2, 3, 4, 5, 6, 7), NONE);
        due("k -1", guard(x, -1, 0, 1, 2, 3, 4, 5, 6, 7), NONE);
        due("k MAX", guard(x, Integer.MAX_VALUE, 0, 1), NONE);
        due("k MIN", guard(x, Integer.MIN_VALUE, 0, 1), NONE);
        due("k 1 of one", guard(x, 1, 0, 1), NONE);
        due("who comes out is DOWN", guard(x, 0, 1, 3), NONE);
        due("who goes in is UP", guard(x, 0, 0, 2), NONE);
        due("one of two cannot be", guard(x, 0, 0, 1, 3, 5), NONE);
        rows(x, 0, 1, 0, 3);
        fails("wrong rows, k none", ARGUMENT, () -> x.guard(-1));
    }

    private static void guardOrder() {
        // 1 of WEIGHT 20 ON 0; 2 bears 6, 3 weighs 5; 4, 5 stand beside
        WakeTower x = told(person(9, 99) + person(20, 50) + person(9, 6) + person(5, 10) + people(2, 9, 9)
                + "up 0 ring 0;up 1 ring 1 on a;up 4 ring 0");
        due("the light one ahead", guard(x, 0, 0, 2, 1, 3), 1);
        due("then the weak one", guard(x, 1, 0, 2, 1, 3), 0);
        due("told the other way", guard(x, 0, 1, 3, 0, 2) * 10 + guard(x, 1, 1, 3, 0, 2), 1);
        int[] rows = {0, 2, 4, 5, 1, 3};
        due("the lesser row first, if it can be", guard(x, 0, rows) * 100 + guard(x, 1, rows) * 10 + guard(x, 2, rows), 120);
        int[] turned = {4, 5, 0, 2, 1, 3};
        due("so too", guard(x, 0, turned) * 100 + guard(x, 1, turned) * 10 + guard(x, 2, turned), 21);
        due("not alone", guard(x, 0, 0, 2), NONE);
        // 5 on 5 can be, 6 on 5 not
        for (int weight = 5; weight <= 6; weight++) {
            WakeTower y = told(person(9, 99) + person(5, 50) + person(9, 5) + person(weight, 10) + "up 0 ring 0;up 1 ring 1 on a");
            due("both", guard(y, 0, 0, 2, 1, 3), weight == 5 ? 0 : NONE);
        }
    }

    private static void guardTape() {
        WakeTower x = told(people(4, 1, 9) + "up 0 ring 0;up 2 ring 0");
        due("the last person", guard(x, 0, 0, 3), 0);
        int[][] wrongs = {{0, 4}, {4, 0}, {0, 255}, {128, 1}, {0, 0}, {0, 1, 0, 3}, {0, 1, 2, 1}, {0, 1, 1, 3}, {0, 1, 2, 0},
            {48, 49}, {0, 1, 2, 4}};
        for (int[] people : wrongs) {
            rows(x, people);
            fails("guard()", ARGUMENT, () -> x.guard(0));
            no("the TAPE is used up", x.end(1));
            rows(x, people);
            fails("solo()", ARGUMENT, x::solo);
            no("the TAPE is used up", x.end(1));
        }
        rows(x, 0, 1);
        due("guard()", x.guard(0), 0);
        no("the TAPE is used up", x.end(1));
        WakeTower none = new WakeTower();
        rows(none, 0, 1);
        fails("of nobody", ARGUMENT, () -> none.guard(0));
        due("no rows of nobody", none.guard(0), NONE);
        due("fault() knows no rows", none.fault(), NONE);
    }

    private static int solo(WakeTower x, int... people) {
        rows(x, people);
        return x.solo();
    }

    private static void solo() {
        WakeTower x = eight();
        due("no rows", solo(x), 0);
        due("one row", solo(x, 0, 1), 1);
        due("four rows", solo(x, 0, 1, 2, 3, 4, 5, 6, 7), 15);
        due("the first alone", solo(x, 0, 1, 3, 5), 1);
        due("the second alone", solo(x, 3, 5, 0, 1), 2);
        rows(x, 0, 1, 2, 3, 4, 5, 6, 7, 0, 1);
        fails("five rows", ARGUMENT, x::solo);
        rows(x, 7);
        fails("half a row", ARGUMENT, x::solo);
        for (int full = 19; full <= 20; full++) {
            WakeTower y = told(person(9, 99) + person(20, 9) + person(9, full) + "up 0 ring 0;up 1 ring 1 on a");
            due("just borne, or not", solo(y, 0, 2), full == 20 ? 1 : 0);
        }
        due("who goes in sleeps", solo(told(NOBODY_UP, person(9, 99) + "up 0 ring 0;up 2 ring 1 on a;asleep 1"), 0, 1), 0);
        due("nothing changed", x.count(6) * 10 + x.count(10), 850);
    }

    // ---- what one knows

    private static void feels() {
        due("one alone: the set of nobody", told(NOBODY_UP, "up 0 ring 0").feels(0), 1);
        WakeTower eight = told(people(8, 1, 99) + "up 0 ring 0;up 1 ring 0;up 2 ring 0;up 3 ring 0",
                "up 4 ring 0;up 5 ring 0;up 6 ring 0;up 7 ring 0");
        due("all sets of seven others", eight.feels(7), 128);
        due("reserves sleep or not: no matter", told(NOBODY_UP, "up 0 ring 0;asleep 1").feels(0), 1);
        WakeTower x = told(ARCH, NOBODY_UP);
        fails("DOWN", STATE, () -> x.feels(3));
        x.sleep(0);
        fails("ASLEEP", STATE, () -> x.feels(0));
        fails("DOWN and ASLEEP", STATE, () -> told(NOBODY_UP, "asleep 0").feels(0));
        fails("no such person", INDEX, () -> x.feels(5));
        fails("no such person", INDEX, () -> x.feels(-1));
        // 1 bears all: 0 sleeps; 2 may or not
        due("BORNE as now", x.feels(1), 2);
    }

    private static void feelsHang() {
        WakeTower x = told(ARCH);
        // 2 bears nothing whoever sleeps: but not both of 0 and 1
        due("none of them, 0, or 1", x.feels(2), 3);
        due("a column: all below must HOLD", told(COLUMN).feels(2), 1);
        // that somebody would GIVE WAY is no matter: 0 cannot bear all
        WakeTower weak = told(person(9, 20) + person(9, 99) + person(40, 9) + person(1, 1)
                + "up 0 ring 0;up 1 ring 0;up 2 ring 1 on ab;up 3 ring 0");
        due("2 by 0 and 1, 2 by 3", weak.feels(2), 6);
        // the odd one of 41 is what parts: 21 and 20
        WakeTower odd = told(person(9, 99) + person(9, 99) + person(41, 9) + "up 0 ring 0;up 1 ring 0;up 2 ring 1 on ab");
        due("0 bears 21", odd.feels(0), 2);
    }

    private static void sureFree() {
        WakeTower x = told(ARCH, person(1, 1) + NOBODY_UP);
        due("SURE of nobody", x.sure(0), 0);
        due("FREE: the other one below", x.free(0), 2);
        due("by 2 of nobody", x.sure(2), 0);
        due("FREE: nobody", x.free(2), 0);
        due("by 0 behind 2, of fewer sets", x.free(0), 2);
        x.sleep(1);
        due("SURE of 1", x.sure(0), 2);
        due("FREE: nobody then", x.free(0), 0);
        x.sleep(3);
        due("a reserve that sleeps felt nowhere", x.sure(0), 2);
        x.rise(4, 2, 4);
        // 4 ON 2: 2 must HOLD; 4 may sleep
        due("FREE: 2, who holds 4", x.free(0), 4);
        due("SURE yet", x.sure(0), 2);
        due("FREE by the top: 2", x.free(4), 4);
        due("not itself", x.free(2) & 4, 0);
        fails("SURE of one DOWN", STATE, () -> x.sure(5));
        fails("FREE of one DOWN", STATE, () -> x.free(5));
        fails("SURE of a sleeper", STATE, () -> x.sure(1));
        fails("FREE of a sleeper", STATE, () -> x.free(1));
        fails("no such person", INDEX, () -> x.sure(6));
        fails("no such person", INDEX, () -> x.free(6));
        fails("no such person", INDEX, () -> x.sure(-1));
        fails("no such person", INDEX, () -> x.free(-1));
        WakeTower one = told("person weight 9 full 9;up 0 ring 0");
        due("one alone", one.sure(0) + one.free(0), 0);
        WakeTower first = told(ARCH, "asleep 0");
        due("SURE of the person 0", first.sure(1), 1);
        due("it is not FREE", first.free(1), 0);
        // 3 ON 2, 2 ON 0 and 1: but for 3 one set alone is so
        WakeTower sole = told(ARCH, "person weight 1 full 1;up 3 ring 2 on c;asleep 0");
        due("sets by 3 of the arch: three", sole.feels(3), 3);
        WakeTower set = told(people(2, 10, 99) + person(40, 99) + person(40, 99) + person(1, 9)
                + "up 0 ring 0;up 1 ring 0;up 2 ring 1 on ab;up 3 ring 1 on b;up 4 ring 2 on cd;asleep 0");
        due("sets by 1", set.feels(1), 6);
        due("SURE by 1 of 0", set.sure(1), 1);
        due("FREE by 1 of nobody", set.free(1), 0);
        WakeTower column = told(people(3, 10, 99) + person(1, 9)
                + "up 0 ring 0;up 1 ring 0;up 2 ring 1 on ab;up 3 ring 2 on c;asleep 1");
        due("both(0, 3): 1 alone sleeps", column.both(0, 3), 1);
        due("a column, all below", told(COLUMN).free(2), 3);
    }

    private static void both() {
        WakeTower x = told(ARCH, NOBODY_UP);
        due("0 and 1: 2 sleeps or not", x.both(0, 1), 2);
        due("2 and 0", x.both(2, 0), 1);
        due("0 and 2", x.both(0, 2), 1);
        fails("both are one", ARGUMENT, () -> x.both(1, 1));
        fails("both are one, DOWN", ARGUMENT, () -> x.both(3, 3));
        fails("the first one is DOWN", STATE, () -> x.both(3, 0));
        fails("the other one is DOWN", STATE, () -> x.both(0, 3));
        x.sleep(0);
        fails("the first one sleeps", STATE, () -> x.both(0, 1));
        fails("the other one sleeps", STATE, () -> x.both(1, 0));
        fails("no such person", INDEX, () -> x.both(5, 5));
        fails("no such person", INDEX, () -> x.both(0, 5));
        fails("no such person", INDEX, () -> x.both(-1, 0));
        due("two alone", told(NOBODY_UP, "up 0 ring 0;up 1 ring 0").both(0, 1), 1);
    }

    private static void ask() {
        WakeTower x = told(ARCH);
        // by 2: none, 0, 1 sleeps: 0 would bear 20, 0, 40 and so would 1
        due("of several the least", x.ask(2), 0);
        // by 0: 2 sleeps or not: 1 bears 20 either way, 2 nothing
        due("the greatest part is all, whomever", x.ask(0), 1);
        due("so by 1", x.ask(1), 0);
        // four sets by 4, who stands beside: none, 0, 1 sleep (of 2 ON both); 3 sees nothing of it
        WakeTower y = told(people(2, 10, 99) + person(40, 9) + person(1, 1) + person(1, 1)
                + "up 0 ring 0;up 1 ring 0;up 2 ring 1 on ab;up 3 ring 0;up 4 ring 0");
        // sets by 3: of 0, 1: three; of 2: two; of 4: two: 0 bears 20, 40 or 0, four times each; else all twelve alike
        due("who parts them", y.ask(3), 0);
        y.sleep(0);
        due("who sleeps is not asked", y.ask(3), 1);
        // 0 bears 88 with two of 1, 2, 3, one of whom sleeps; 4, ON them all, may sleep: six sets, 1 parts 2 and 4
        WakeTower one = told(people(4, 1, 99) + person(88, 1) + "up 0 ring 0;up 1 ring 0;up 2 ring 0;up 3 ring 0;"
                + "up 4 ring 1 on abcd;asleep 3");
        due("six sets", one.feels(0), 6);
        due("1 and 2 part them alike: the least", one.ask(0), 1);
        // 0 bears 198 in all of six sets by 5; 3 and 4 would bear 20, 40 or nothing
        WakeTower heavy = told(person(1, 999) + person(99, 999) + person(99, 9) + people(2, 1, 99) + person(40, 9)
                + "up 0 ring 0;up 1 ring 1 on a;up 2 ring 2 on b;up 3 ring 0;up 4 ring 0;up 5 ring 1 on de");
        due("six sets", heavy.feels(5), 6);
        due("one who bears much, but alike in all", heavy.ask(5), 3);
    }

    private static void askNone() {
        WakeTower one = told(NOBODY_UP, "up 0 ring 0");
        due("one set alone", one.ask(0), NONE);
        due("one set alone of a column", told(COLUMN).ask(2), NONE);
        WakeTower two = told(NOBODY_UP, "up 0 ring 0;up 1 ring 0");
        due("two sets", two.ask(0), 1);
        two.sleep(1);
        due("two sets, nobody else HOLDS", two.ask(0), NONE);
        fails("ASLEEP", STATE, () -> two.ask(1));
        fails("DOWN", STATE, () -> one.ask(1));
        fails("no such person", INDEX, () -> one.ask(2));
        fails("no such person", INDEX, () -> one.ask(-1));
    }

    // ---- pushes

    private static void pushes() {
        WakeTower x = path();
        for (int i = 0; i < 8; i++) {
            due("from 0 to " + i, x.pushes(0, i), i);
            due("from 7 to " + i, x.pushes(7, i), 7 - i);
            due("to itself", x.pushes(i, i), 0);
        }
        x.sleep(7);
        due("to a sleeper", x.pushes(0, 7), NONE);
        due("from a sleeper", x.pushes(7, 0), NONE);
        due("a sleeper to itself", x.pushes(7, 7), NONE);
        due("one ahead of it", x.pushes(0, 6), 6);
        x.sleep(4);
        due("past a sleeper", x.pushes(0, 5), NONE);
        due("ahead of a sleeper", x.pushes(0, 3), 3);
        WakeTower two = told(NOBODY_UP, "up 0 ring 0;up 1 ring 0");
        due("who stand beside touch not", two.pushes(0, 1), NONE);
        WakeTower high = told(people(3, 1, 99) + "up 1 ring 0;up 0 ring 1 on b;up 2 ring 2 on a");
        due("from one below to 0", high.pushes(1, 0), 1);
        due("past 0", high.pushes(1, 2), 2);
        due("past 0, down", high.pushes(2, 1), 2);
        due("to 0, down", high.pushes(2, 0), 1);
        due("0 cuts", high.cuts(0), 1);
        due("0 tells soonest", high.herald(), 0);
        two.out(1);
        due("to one DOWN", two.pushes(0, 1), NONE);
        due("one DOWN to itself", two.pushes(1, 1), NONE);
        fails("no such person", INDEX, () -> two.pushes(2, 0));
        fails("no such person", INDEX, () -> two.pushes(0, 2));
        fails("no such person", INDEX, () -> two.pushes(-1, 0));
        fails("no such person", INDEX, () -> two.pushes(0, -1));
    }

    private static void tell() {
        WakeTower x = path();
        int[] due = {7, 6, 5, 4, 4, 5, 6, 7};
        for (int i = 0; i < 8; i++) {
            due("tell(" + i + ")", x.tell(i), due[i]);
        }
        x.sleep(7);
        due("without the last one", x.tell(0), 6);
        due("a sleeper", x.tell(7), NONE);
        WakeTower two = told(NOBODY_UP, "up 0 ring 0");
        due("one alone", two.tell(0), 0);
        due("DOWN", two.tell(1), NONE);
        two.rise(1, 0, 0);
        due("one who cannot know", two.tell(0), NONE);
        two.sleep(1);
        due("a sleeper need not", two.tell(0), 0);
        fails("no such person", INDEX, () -> two.tell(2));
        fails("no such person", INDEX, () -> two.tell(-1));
    }

    private static void herald() {
        due("none", new WakeTower().herald(), NONE);
        due("nobody UP", told(NOBODY_UP).herald(), NONE);
        due("sleepers alone", told(NOBODY_UP, "up 0 ring 0;asleep 0").herald(), NONE);
        due("one", told(NOBODY_UP, "up 1 ring 0").herald(), 1);
        due("of several the least", path().herald(), 3);
        due("the middle", told(COLUMN).herald(), 1);
        due("some cannot", told(NOBODY_UP, "up 0 ring 0;up 1 ring 0").herald(), NONE);
        due("a sleeper need not", told(NOBODY_UP, "up 0 ring 0;up 1 ring 0;asleep 0").herald(), 1);
    }

    private static void cuts() {
        WakeTower x = path();
        int[] due = {0, 6, 10, 12, 12, 10, 6, 0};
        for (int i = 0; i < 8; i++) {
            due("cuts(" + i + ")", x.cuts(i), due[i]);
        }
        WakeTower star = told(people(8, 1, 99) + "up 0 ring 0;up 1 ring 1 on a;up 2 ring 1 on a;up 3 ring 1 on a",
                "up 4 ring 1 on a;up 5 ring 1 on a;up 6 ring 1 on a;up 7 ring 1 on a");
        due("all pairs of seven", star.cuts(0), 21);
        due("an end", star.cuts(7), 0);
        star.sleep(7);
        due("all pairs of six", star.cuts(0), 15);
        due("a sleeper", star.cuts(7), 0);
        WakeTower ring = told(people(4, 1, 99) + "up 0 ring 0;up 1 ring 0;up 2 ring 1 on ab;up 3 ring 1 on ab");
        due("another way round", ring.cuts(0), 0);
        WakeTower two = told(NOBODY_UP, "up 0 ring 0");
        due("DOWN", two.cuts(1), 0);
        due("one alone", two.cuts(0), 0);
        two.rise(1, 0, 0);
        due("pairs that could not anyway", two.cuts(0), 0);
        fails("no such person", INDEX, () -> two.cuts(2));
        fails("no such person", INDEX, () -> two.cuts(-1));
    }

    // ---- rosters

    private static void rosterBounds() {
        WakeTower x = told("person weight 1 full 999;person weight 1 full 999");
        due("N 1", x.roster(1, 999, NONE), 1);
        due("N 12", x.roster(12, 999, NONE), 12);
        due("X 0", x.roster(12, 0, NONE), 0);
        fails("N 0", ARGUMENT, () -> x.roster(0, 0, NONE));
        fails("N 13", ARGUMENT, () -> x.roster(13, 0, NONE));
        fails("N -1", ARGUMENT, () -> x.roster(-1, 0, NONE));
        fails("N MAX", ARGUMENT, () -> x.roster(Integer.MAX_VALUE, 0, 0));
        fails("N MIN", ARGUMENT, () -> x.roster(Integer.MIN_VALUE, 0, 0));
        fails("X -1", ARGUMENT, () -> x.roster(1, -1, NONE));
        fails("X 1000", ARGUMENT, () -> x.roster(1, 1000, NONE));
        fails("X MAX", ARGUMENT, () -> x.roster(1, Integer.MAX_VALUE, 5));
        fails("X MIN", ARGUMENT, () -> x.roster(1, Integer.MIN_VALUE, -5));
        WakeTower none = new WakeTower();
        due("nobody, X 0", none.roster(12, 0, NONE), 0);
        due("nobody, X 0: the set of nobody", none.roster(12, 0, 11), 0);
        due("nobody, X 1", none.roster(1, 1, NONE), NONE);
        due("nobody, X 1", none.roster(1, 1, 0), NONE);
        fails("nobody, N 0", ARGUMENT, () -> none.roster(0, 0, NONE));
    }

    private static void rosterAtLeast() {
        WakeTower x = told(person(1, 60) + person(1, 40) + person(1, 50) + "up 0 ring 0;asleep 1");
        due("just one", x.roster(1, 60, NONE), 1);
        due("one more: two", x.roster(1, 61, NONE), 2);
        due("just two", x.roster(1, 110, NONE), 2);
        due("one more: three", x.roster(1, 111, NONE), 3);
        due("just all", x.roster(1, 150, NONE), 3);
        due("one more: none", x.roster(1, 151, NONE), NONE);
        due("one more: none", x.roster(1, 151, 0), NONE);
        due("UP or DOWN, asleep or not", x.roster(1, 150, 0), 7);
    }

    private static void rosterKth() {
        WakeTower x = told(person(1, 60) + person(1, 40) + person(1, 60));
        due("how many", x.roster(3, 60, NONE), 3);
        int[] due = {1, 4, 1};
        for (int k = 0; k < 3; k++) {
            due("k " + k, x.roster(3, 60, k), due[k]);
        }
        due("k 3", x.roster(3, 60, 3), NONE);
        due("k -2", x.roster(3, 60, -2), NONE);
        due("k MAX", x.roster(3, 60, Integer.MAX_VALUE), NONE);
        due("k MIN", x.roster(3, 60, Integer.MIN_VALUE), NONE);
        due("k 11", x.roster(12, 60, 11), 4);
        due("k 12", x.roster(12, 60, 12), NONE);
    }

    private static void rosterTwice() {
        WakeTower one = told(person(1, 60));
        due("one hour", one.roster(1, 60, NONE), 1);
        due("not twice running", one.roster(2, 60, NONE), NONE);
        due("nor in the third", one.roster(3, 60, NONE), NONE);
        due("of nothing", one.roster(3, 0, NONE), 0);
        WakeTower two = told(person(1, 60) + person(1, 61));
        due("by turns", two.roster(4, 60, NONE), 4);
        due("in the third again", two.roster(4, 60, 2), 1);
        due("61 by one alone", two.roster(1, 61, NONE), 1);
        due("61 not twice", two.roster(2, 61, NONE), NONE);
        // one of 100, or both of 50: never three running
        WakeTower three = told(person(1, 50) + person(1, 50) + person(1, 100));
        due("1 and 2 and 1", three.roster(3, 100, NONE), 4);
        due("first the one", three.roster(3, 100, 0), 4);
        due("then both", three.roster(3, 100, 1), 3);
        due("then the one", three.roster(3, 100, 2), 4);
    }

    private static void rosterFirst() {
        // with an even number of hours both ways are alike: the lesser set first
        WakeTower three = told(person(1, 50) + person(1, 50) + person(1, 100));
        due("how many", three.roster(2, 100, NONE), 3);
        due("the least set", three.roster(2, 100, 0), 3);
        due("then the other", three.roster(2, 100, 1), 4);
        WakeTower four = told(people(4, 1, 100));
        int[] due = {1, 2, 1, 2};
        for (int k = 0; k < 4; k++) {
            due("k " + k, four.roster(4, 100, k), due[k]);
        }
        WakeTower eight = told(people(8, 1, 25));
        due("half of them", eight.roster(2, 100, 0), 15);
        due("the other half", eight.roster(2, 100, 1), 240);
        due("none of a fifth", eight.roster(2, 101, NONE), NONE);
        due("twelve hours of four", eight.roster(12, 100, NONE), 48);
    }

    private static void pairs() {
        WakeTower x = told(person(1, 500) + person(1, 499));
        due("just 999", x.pairs(999), 1);
        WakeTower less = told(person(1, 500) + person(1, 498));
        due("998", less.pairs(999), 0);
        due("X 998", less.pairs(998), 1);
        due("X 0", told("person weight 1 full 0;person weight 1 full 0").pairs(0), 1);
        due("X 1", told("person weight 1 full 0;person weight 1 full 0").pairs(1), 0);
        due("all pairs of eight", told(people(8, 1, 1)).pairs(2), 28);
        due("none of them", told(people(8, 1, 1)).pairs(3), 0);
        due("nobody", new WakeTower().pairs(0), 0);
        due("one", told("person weight 1 full 9").pairs(0), 0);
        fails("X -1", ARGUMENT, () -> x.pairs(-1));
        fails("X 1000", ARGUMENT, () -> x.pairs(1000));
        fails("X MAX", ARGUMENT, () -> x.pairs(Integer.MAX_VALUE));
        fails("X MIN", ARGUMENT, () -> x.pairs(Integer.MIN_VALUE));
    }

    private static void dearestNone() {
        due("without PEOPLE", new WakeTower().dearest(), NONE);
        due("one: none without it", told("person weight 1 full 9").dearest(), 0);
        // without 2 there is none; without another one there is: none is more than all
        WakeTower x = told(person(1, 50) + person(1, 50) + person(1, 100) + person(1, 50));
        due("none is more than all", x.dearest(), 2);
        // without 0 two hours take all six of 34; without one of these 171 are too few for them
        WakeTower six = told(person(1, 1) + people(6, 1, 34));
        due("six places are less than none", six.dearest(), 1);
        WakeTower seven = told(person(1, 100) + people(6, 1, 34));
        due("six places are more than four", seven.dearest(), 0);
    }

    private static void dearest() {
        due("of several the least", told(people(3, 1, 100)).dearest(), 0);
        // without 0: 2 places; without 1 or 2: 3 places
        due("the most", told(person(1, 50) + person(1, 100) + person(1, 100) + person(1, 50) + person(1, 50)).dearest(), 1);
        due("none anyway: the least", told(people(8, 1, 9)).dearest(), 0);
        // just 100 and one less: 99 needs another one beside it
        due("X 100", told(person(1, 100) + person(1, 99) + person(1, 100) + person(1, 100)).dearest(), 0);
        due("99 is too few", told(person(1, 99) + person(1, 100) + person(1, 100) + person(1, 1)).dearest(), 1);
        // two hours without 1 or 4 take six places; three hours would take eight without 1, nine without 4
        due("2 HOURS", told(person(1, 31) + person(1, 50) + person(1, 27) + person(1, 18) + person(1, 53) + person(1, 47)
                + person(1, 33)).dearest(), 1);
    }

    private static void rests() {
        WakeTower x = told(ARCH, NOBODY_UP);
        due("no choices from which neither would go", x.rests(2, 0), 0);
        due("whatever it BEARS", x.rests(2, 1), 0);
        fails("0 is not ON 2", STATE, () -> x.rests(0, 2));
        fails("0 is not ON 1", STATE, () -> x.rests(0, 1));
        fails("itself", STATE, () -> x.rests(2, 2));
        fails("the first one is DOWN", STATE, () -> x.rests(3, 0));
        fails("the other one is DOWN", STATE, () -> x.rests(2, 3));
        fails("no such person", INDEX, () -> x.rests(5, 0));
        fails("no such person", INDEX, () -> x.rests(2, 5));
        fails("no such person", INDEX, () -> x.rests(-1, -1));
        x.lean(2, 2);
        fails("not ON 0 any more", STATE, () -> x.rests(2, 0));
        due("ON 1", x.rests(2, 1), 0);
        x.lean(2, 3);
        x.sleep(1);
        fails("the other one sleeps", STATE, () -> x.rests(2, 1));
        due("0 bears 40", x.rests(2, 0), 0);
        x.sleep(2);
        fails("the first one sleeps", STATE, () -> x.rests(2, 0));
    }

    // ---- odds and the rest

    private static void oddsBounds() {
        WakeTower x = underLaw("drowse 50", ARCH);
        int[] due = {10000, 5000, 2500, 1250, 625};
        for (int n = 0; n <= 4; n++) {
            due("N " + n, x.odds(0, n), due[n]);
        }
        fails("N 5", ARGUMENT, () -> x.odds(0, 5));
        fails("N -1", ARGUMENT, () -> x.odds(0, -1));
        fails("N MAX", ARGUMENT, () -> x.odds(0, Integer.MAX_VALUE));
        fails("N MIN", ARGUMENT, () -> x.odds(0, Integer.MIN_VALUE));
        fails("no such person", INDEX, () -> x.odds(3, 0));
        fails("no such person", INDEX, () -> x.odds(-1, 5));
    }

    private static void odds() {
        int[] one = {10000, 9900, 100, 0};
        String[] laws = {"drowse 0", "drowse 1", "drowse 99", "drowse 100"};
        for (int i = 0; i < laws.length; i++) {
            due(laws[i], underLaw(laws[i], ARCH).odds(0, 1), one[i]);
        }
        WakeTower more = underLaw("drowse 100;drowse 1", ARCH);
        due("101: 100 at most", more.odds(0, 1), 0);
        due("and two hours", more.odds(0, 2), 0);
        due("1200: 100 at most", underLaw("drowse 100;".repeat(11) + "drowse 100", ARCH).odds(0, 3), 0);
        // 9900, 9801, 9702.99, 9605.. : rounded down each time
        int[] times = {10000, 9900, 9801, 9702, 9604};
        // 100, 1, 0.01
        int[] rare = {10000, 100, 1, 0, 0};
        // 3300, 1089, 359.37, 118.47 of 359
        int[] third = {10000, 3300, 1089, 359, 118};
        for (int n = 0; n <= 4; n++) {
            due("DROWSES 1, N " + n, underLaw("drowse 1", ARCH).odds(0, n), times[n]);
            due("DROWSES 99, N " + n, underLaw("drowse 99", ARCH).odds(0, n), rare[n]);
            due("DROWSES 67, N " + n, underLaw("drowse 67", ARCH).odds(0, n), third[n]);
        }
    }

    private static void alone() {
        due("none", new WakeTower().alone(), 0);
        due("nobody in RING 0", told(NOBODY_UP, "up 0 ring 0;up 1 ring 0").alone(), 0);
        due("by two: not alone", told(ARCH).alone(), 0);
        due("one of two sleeps", told(ARCH, "asleep 1").alone(), 4);
        due("a sleeper held by one", told(ARCH, "asleep 1;asleep 2").alone(), 4);
        due("a column", told(COLUMN).alone(), 6);
    }

    private static void tired() {
        due("nobody", new WakeTower().tired(), NONE);
        WakeTower x = underLaw("", people(4, 9, 99) + "up 1 ring 0;up 2 ring 0;up 3 ring 0;asleep 3");
        due("all 0", x.tired(), NONE);
        x.hours(1);
        due("of several the least", x.tired(), 1);
        x.sleep(1);
        x.hours(1);
        due("2 more than 0", x.tired(), 2);
        x.wake(1);
        x.hours(60);
        x.hours(60);
        due("99 both: the least", x.tired(), 1);
        x.sleep(1);
        x.sleep(2);
        x.hours(1);
        due("all 0 again", x.tired(), NONE);
        x.wake(2);
        x.hours(1);
        due("1 is enough", x.tired(), 2);
    }

    private static void twins() {
        due("nobody", new WakeTower().twins(), 0);
        due("one", told("person weight 1 full 9").twins(), 0);
        due("two", told(people(2, 1, 9)).twins(), 1);
        due("eight", told(people(8, 1, 9)).twins(), 28);
        due("WEIGHT alone", told(person(1, 9) + "person weight 1 full 8").twins(), 0);
        due("FULL alone", told(person(1, 9) + "person weight 2 full 9").twins(), 0);
        due("crossed", told(person(8, 9) + "person weight 9 full 8").twins(), 0);
        WakeTower x = underLaw("fade 9 if person < 1", people(2, 1, 9) + "up 0 ring 0");
        x.hours(1);
        due("STRENGTH is no matter", x.twins(), 1);
    }

    private static void rings() {
        WakeTower x = told(people(6, 1, 99) + "up 0 ring 0;up 1 ring 1 on a;up 2 ring 2 on b;up 3 ring 3 on c;up 4 ring 4 on d");
        for (int ring = 0; ring < 5; ring++) {
            due("ring(" + ring + ")", x.ring(ring), 1 << ring);
        }
        fails("ring(5)", INDEX, () -> x.ring(5));
        fails("ring(-1)", INDEX, () -> x.ring(-1));
        fails("ring(MAX)", INDEX, () -> x.ring(Integer.MAX_VALUE));
        fails("ring(MIN)", INDEX, () -> x.ring(Integer.MIN_VALUE));
        x.out(4);
        due("nobody", x.ring(4), 0);
        due("nobody at all", new WakeTower().ring(0), 0);
    }

    private static void reserves() {
        due("nobody", new WakeTower().reserves(), 0);
        due("nobody", new WakeTower().sleepers(), 0);
        WakeTower x = told(people(8, 1, 9));
        due("all", x.reserves(), 255);
        for (int i = 0; i < 8; i++) {
            x.sleep(i);
            x.rise(i, 0, 0);
        }
        due("none", x.reserves(), 0);
        due("all", x.sleepers(), 255);
        x.out(7);
        due("the last one", x.reserves(), 128);
        due("it sleeps yet", x.sleepers(), 255);
    }

    // ---- hours ahead

    private static void soonNeed() {
        WakeTower x = told(NOBODY_UP, "up 0 ring 0");
        due("as many as NEED", x.soon(), NONE);
        x.need(2);
        due("fewer than NEED", x.soon(), 0);
        x.need(0);
        due("never fewer than 0", x.soon(), NONE);
        WakeTower none = new WakeTower();
        due("nobody, NEED 1", none.soon(), 0);
        none.need(0);
        due("nobody, NEED 0", none.soon(), NONE);
        WakeTower sleeper = told(NOBODY_UP, "up 0 ring 0;asleep 0");
        due("a sleeper is UP", sleeper.soon(), NONE);
    }

    private static void soonBounds() {
        // it bears w of 99, 1 less each hour
        int[] weights = {99, 98, 40, 39};
        int[] due = {1, 2, 60, NONE};
        for (int i = 0; i < weights.length; i++) {
            WakeTower x = underLaw("fade 1;drowse 100", person(1, 99) + person(weights[i], 9) + "up 0 ring 0;up 1 ring 1 on a;need 2");
            due("WEIGHT " + weights[i], x.soon(), due[i]);
            due("nothing stays", x.count(6) * 10 + x.count(3) + x.count(9), 30);
            due("no DRAWS", x.seed(1), 1);
        }
    }

    private static void ahead() {
        WakeTower x = underLaw("fade 1;drowse 100;fade 50 if asleep", person(1, 99) + "up 0 ring 0");
        due("N 0", x.ahead(0, 0), 99);
        due("N 1", x.ahead(0, 1), 98);
        due("N 60: nobody falls asleep", x.ahead(0, 60), 39);
        fails("N 61", ARGUMENT, () -> x.ahead(0, 61));
        fails("N -1", ARGUMENT, () -> x.ahead(0, -1));
        fails("N MAX", ARGUMENT, () -> x.ahead(0, Integer.MAX_VALUE));
        fails("N MIN", ARGUMENT, () -> x.ahead(0, Integer.MIN_VALUE));
        fails("no such person", INDEX, () -> x.ahead(1, 0));
        fails("no such person, no such N", INDEX, () -> x.ahead(-1, 61));
        due("nothing stays", x.person(0, 2) * 10 + x.count(3), 990);
        due("no DRAWS", x.seed(1), 1);
        WakeTower sleeper = told("person weight 1 full 99;up 0 ring 0;asleep 0");
        due("who sleeps sleeps on", sleeper.ahead(0, 60), 99);
    }

    private static void trial() {
        WakeTower x = underLaw("drowse 100 if hour > 22", people(2, 1, 99) + "up 0 ring 0;up 1 ring 1 on a;hour 12;asleep 1");
        due("N 0 UP", x.trial(0, false), 3);
        due("N 0 ASLEEP", x.trial(0, true), 2);
        due("N 11 ASLEEP", x.trial(11, true), 2);
        due("N 12 ASLEEP: the one that fell is awake", x.trial(12, true), 1);
        due("N 12 UP", x.trial(12, false), 1);
        due("N 60", x.trial(60, true), 1);
        fails("N 61", ARGUMENT, () -> x.trial(61, true));
        fails("N 61", ARGUMENT, () -> x.trial(61, false));
        fails("N -1", ARGUMENT, () -> x.trial(-1, true));
        fails("N MAX", ARGUMENT, () -> x.trial(Integer.MAX_VALUE, true));
        fails("N MIN", ARGUMENT, () -> x.trial(Integer.MIN_VALUE, true));
        due("nothing stays", x.count(6) * 100 + x.count(3) + x.count(9) + x.count(10), 312);
        due("no SEED stays", x.seed(1), 1);
        due("nobody", new WakeTower().trial(60, true), 0);
        due("nobody", new WakeTower().trial(60, false), 0);
        // from now: by the SEED there is
        WakeTower draws = underLaw("drowse 39", "person weight 9 full 99;up 0 ring 0");
        due("38 from SEED 1", draws.trial(1, true), 1);
        draws.seed(3);
        due("47 from SEED 3", draws.trial(1, true), 0);
        due("SEED stays", draws.seed(1), 3);
    }

    private static void span() {
        WakeTower x = underLaw("drowse 40 if person < 1", people(2, 9, 99) + "up 0 ring 0;up 1 ring 1 on a");
        x.seed(-9);
        due("N 0", x.span(0, false) * 10 + x.span(0, true), 22);
        due("N 1 the least", x.span(1, false), 1);
        due("N 1 the greatest", x.span(1, true), 2);
        due("N 60", x.span(60, false) * 10 + x.span(60, true), 11);
        fails("N 61", ARGUMENT, () -> x.span(61, true));
        fails("N 61", ARGUMENT, () -> x.span(61, false));
        fails("N -1", ARGUMENT, () -> x.span(-1, true));
        fails("N MAX", ARGUMENT, () -> x.span(Integer.MAX_VALUE, false));
        fails("N MIN", ARGUMENT, () -> x.span(Integer.MIN_VALUE, false));
        due("nothing stays", x.count(6) * 10 + x.count(9) + x.sleepers(), 30);
        due("SEED stays", x.seed(1), -9);
        due("nobody", new WakeTower().span(60, true), 0);
        due("nobody", new WakeTower().span(60, false), 0);
        spanSeeds();
    }

    /** From SEED 1 to 6 the first draws are 38, 8, 47, 17, 55, 26 modulo 100, from 0 and 7 they are 0 and 64. */
    private static void spanSeeds() {
        int[] drowses = {8, 9, 55, 56};
        int[] least = {2, 1, 1, 1};
        int[] greatest = {2, 2, 2, 1};
        for (int i = 0; i < drowses.length; i++) {
            WakeTower x = underLaw("drowse " + drowses[i] + " if person < 1", people(2, 9, 99) + "up 0 ring 0;up 1 ring 1 on a");
            due("the least, DROWSES " + drowses[i], x.span(1, false), least[i]);
            due("the greatest, DROWSES " + drowses[i], x.span(1, true), greatest[i]);
        }
    }

    private static void led() {
        WakeTower x = underLaw("drowse 100 if person < 1", people(3, 9, 99) + "up 0 ring 0;up 1 ring 1 on a;day 6");
        due("no rows", x.led(1, false), 0);
        due("no DAY", x.led(1, true), NONE);
        x.hours(1);
        due("one row", x.led(1, false), 1);
        due("its DAY", x.led(1, true), 6);
        due("none of another", x.led(0, false), 0);
        due("none of another", x.led(0, true), NONE);
        x.wake(0);
        x.rise(1, 1, 1);
        x.hours(24);
        due("two rows", x.led(1, false), 2);
        due("the DAY of the latest", x.led(1, true), 6);
        x.wake(0);
        x.rise(1, 1, 1);
        x.hours(1);
        due("three rows", x.led(1, false), 3);
        due("the DAY of the latest", x.led(1, true), 7);
        fails("no such person", INDEX, () -> x.led(3, false));
        fails("no such person", INDEX, () -> x.led(3, true));
        fails("no such person", INDEX, () -> x.led(-1, true));
    }

    private static void counts() {
        WakeTower x = told(COLUMN, "");
        int[] due = {4, 2, NONE, 0, 0, 1, 7, 80, 340, 0, 0};
        for (int what = 0; what <= 10; what++) {
            due("count(" + what + ")", x.count(what), due[what]);
        }
        due("count(11)", x.count(11), NONE);
        due("count(-1)", x.count(-1), NONE);
        due("count(MAX)", x.count(Integer.MAX_VALUE), NONE);
        due("count(MIN)", x.count(Integer.MIN_VALUE), NONE);
    }
}
