import java.math.BigInteger;

/** The edges that the document's part 2 and the promises 8 to 15 and 56 to 60 name: loads, falls, hours, acts, the log. */
public final class StandEdgeTest extends Checks {
    /** 2 ON 0 and 1, who bear 20 each. */
    private static final String ARCH = "person weight 10 full 100;person weight 10 full 100;person weight 40 full 100;"
            + "up 0 ring 0;up 1 ring 0;up 2 ring 1 on ab";
    private static final String ALONE = "person weight 10 full 100;up 0 ring 0";

    public static void main(String[] args) {
        run("shares are rounded down, the least numbers have 1 more", StandEdgeTest::shares);
        run("each load is shared out by itself", StandEdgeTest::sharedAlone);
        run("those that do not HOLD have no share", StandEdgeTest::noShare);
        run("WEIGHT and what it BEARS go down", StandEdgeTest::goesDown);
        run("rise: BORNE up to STRENGTH", StandEdgeTest::riseBorne);
        run("rise: somebody HOLDS below", StandEdgeTest::riseHeld);
        run("rise: RINGS and sets", StandEdgeTest::riseSets);
        run("out: BORNE up to STRENGTH", StandEdgeTest::outBorne);
        run("out: nobody HANGS", StandEdgeTest::outHangs);
        run("relieve: BORNE up to STRENGTH", StandEdgeTest::relieveBorne);
        run("relieve: nobody HANGS", StandEdgeTest::relieveHangs);
        run("lean: BORNE up to STRENGTH", StandEdgeTest::leanBorne);
        run("lean: RINGS and sets", StandEdgeTest::leanSets);
        run("wake: BORNE up to STRENGTH", StandEdgeTest::wakeBorne);
        run("sleep: BORNE up to STRENGTH", StandEdgeTest::sleepBorne);
        run("sleep: nobody HANGS", StandEdgeTest::sleepHangs);
        run("NEED 0 to 8", StandEdgeTest::needs);
        run("hours 1 to 60", StandEdgeTest::hours);
        run("STRENGTH 0 at least, FULL at most", StandEdgeTest::strengths);
        run("HOURS awake 0 to 99", StandEdgeTest::awake);
        run("behind HOUR 23 a DAY", StandEdgeTest::clock);
        run("DRAW modulo 100 below DROWSES", StandEdgeTest::below);
        run("DRAW goes round", StandEdgeTest::goesRound);
        run("who draws", StandEdgeTest::whoDraws);
        run("a FALL if BORNE is more than STRENGTH", StandEdgeTest::gives);
        run("a FALL round by round", StandEdgeTest::rounds);
        run("at once", StandEdgeTest::atOnce);
        run("not ASLEEP any more", StandEdgeTest::awakeByFalling);
        run("a FALL if somebody HANGS", StandEdgeTest::hangs);
        run("THE LOG: DAY and HOUR ahead", StandEdgeTest::logTime);
        run("THE LOG: the latest 60", StandEdgeTest::logRoom);
        run("12 are remembered", StandEdgeTest::remembered);
        run("what is an ACT", StandEdgeTest::acts);
        run("what is not an ACT", StandEdgeTest::noActs);
        run("texts and going back: none are remembered", StandEdgeTest::forgotten);
        run("UNDONE and done again", StandEdgeTest::undoneAndDone);
        run("UNDONE but for", StandEdgeTest::undoneBut);
        run("THE IMAGE", StandEdgeTest::image);
        run("THE IMAGE is one", StandEdgeTest::oneImage);
        end("StandEdgeTest");
    }

    // ---- loads

    private static void shares() {
        for (int many = 1; many <= 6; many++) {
            for (int load = 1; load <= 13; load++) {
                StringBuilder lines = new StringBuilder(people(many, 1, 99) + person(load, 1));
                for (int i = 0; i < many; i++) {
                    lines.append("up ").append(i).append(" ring 0;");
                }
                lines.append("up ").append(many).append(" ring 1 on ").append("fedcba".substring(6 - many));
                WakeTower x = told(lines.toString());
                for (int i = 0; i < many; i++) {
                    due("what " + i + " of " + many + " bears of " + load, x.person(i, 8),
                            load / many + (i < load % many ? 1 : 0));
                }
                due("all", x.count(7), load);
            }
        }
    }

    private static void sharedAlone() {
        // 1 and 1 on two: each for itself, so that 0 has both
        WakeTower x = told(people(4, 1, 99) + "up 0 ring 0;up 1 ring 0;up 2 ring 1 on ab;up 3 ring 1 on ab");
        due("0 has 1 of each", x.person(0, 8), 2);
        due("1 has none", x.person(1, 8), 0);
        // the numbers are of those below, not of those above or of the order told
        WakeTower y = told(people(4, 1, 99) + "up 3 ring 0;up 2 ring 0;up 1 ring 1 on dc;up 0 ring 1 on dc");
        due("2 has 1 of each", y.person(2, 8), 2);
        due("3 has none", y.person(3, 8), 0);
    }

    private static void noShare() {
        WakeTower x = told(people(3, 1, 99) + person(10, 9) + "up 0 ring 0;up 1 ring 0;up 2 ring 0;up 3 ring 1 on abc");
        due("4, 3, 3", x.person(0, 8) * 100 + x.person(1, 8) * 10 + x.person(2, 8), 433);
        due("sleep(0): all BORNE", x.sleep(0), 10);
        due("0, 5, 5", x.person(0, 8) * 100 + x.person(1, 8) * 10 + x.person(2, 8), 55);
        x.sleep(2);
        due("1 alone", x.person(1, 8), 10);
        due("0 and 2", x.person(0, 8) + x.person(2, 8), 0);
        fails("the last one that HOLDS", STATE, () -> x.sleep(1));
        x.wake(0);
        due("0 and 1", x.person(0, 8) * 10 + x.person(1, 8), 55);
        // who is in the RING below, but not told, has no share
        x.lean(3, 2);
        due("1 alone", x.person(0, 8) * 100 + x.person(1, 8), 10);
    }

    private static void goesDown() {
        WakeTower x = told(person(1, 99) + person(2, 99) + person(4, 99) + person(8, 99) + person(16, 99)
                + "up 0 ring 0;up 1 ring 1 on a;up 2 ring 2 on b;up 3 ring 3 on c;up 4 ring 4 on d");
        int[] due = {30, 28, 24, 16, 0};
        for (int i = 0; i < 5; i++) {
            due("what " + i + " bears", x.person(i, 8), due[i]);
        }
        due("GROUND is as much as TOTAL", x.ground(), 31);
        due("TOTAL", x.total(), 31);
        due("all BORNE", x.count(7), 98);
        // a sleeper that bears nothing gives its WEIGHT down
        WakeTower y = told(people(2, 1, 99) + person(2, 99) + person(4, 99) + person(8, 9)
                + "up 0 ring 0;up 1 ring 0;up 2 ring 1 on a;up 3 ring 1 on b;up 4 ring 2 on cd");
        y.sleep(2);
        due("0 bears the sleeper alone", y.person(0, 8), 2);
        due("1 bears 4 and 8", y.person(1, 8), 12);
        due("the sleeper bears nothing", y.person(2, 8), 0);
        due("GROUND", y.ground(), 16);
    }

    // ---- acts at their edges

    private static void riseBorne() {
        for (int more = 0; more <= 1; more++) {
            WakeTower x = told(person(9, 20) + person(20 + more, 0) + "up 0 ring 0");
            if (more == 0) {
                due("just borne", x.rise(1, 1, 1), 20);
                due("SPARE", x.person(0, 12), 0);
            } else {
                fails("one more", STATE, () -> x.rise(1, 1, 1));
                due("it is DOWN", x.reserves(), 2);
            }
        }
        // the lowest of three gives way, not the middle
        WakeTower y = told(person(9, 49) + person(30, 20) + person(20, 9) + "up 0 ring 0;up 1 ring 1 on a");
        fails("50 on 49", STATE, () -> y.rise(2, 2, 2));
        WakeTower z = told(person(9, 50) + person(30, 20) + person(20, 9) + "up 0 ring 0;up 1 ring 1 on a");
        due("50 on 50", z.rise(2, 2, 2), 70);
        WakeTower none = told(person(9, 0) + person(99, 0) + "need 0");
        due("nobody bears in RING 0", none.rise(0, 0, 0) + none.rise(1, 0, 0), 0);
    }

    private static void riseHeld() {
        WakeTower x = told(people(3, 9, 99) + "up 0 ring 0;up 1 ring 0;asleep 0;asleep 1");
        fails("on sleepers", STATE, () -> x.rise(2, 1, 3));
        x.wake(1);
        fails("on the sleeper alone", STATE, () -> x.rise(2, 1, 1));
        due("on one who HOLDS, too", x.rise(2, 1, 3), 9);
    }

    private static void riseSets() {
        WakeTower x = told(people(5, 9, 99) + "up 0 ring 0;up 1 ring 1 on a;up 2 ring 2 on b;up 3 ring 3 on c");
        due("RING 4", x.rise(4, 4, 8), 90);
        x.out(4);
        fails("RING 5", INDEX, () -> x.rise(4, 5, 8));
        fails("RING -1", INDEX, () -> x.rise(4, -1, 0));
        fails("RING MAX", INDEX, () -> x.rise(4, Integer.MAX_VALUE, 8));
        fails("RING MIN", INDEX, () -> x.rise(4, Integer.MIN_VALUE, 8));
        fails("no such person", INDEX, () -> x.rise(5, 0, 0));
        fails("no such person, no such RING", INDEX, () -> x.rise(-1, 5, 0));
        fails("it is UP, no such RING", INDEX, () -> x.rise(0, 5, 0));
        fails("it is UP", STATE, () -> x.rise(3, 3, 4));
        fails("RING 4 on nobody", STATE, () -> x.rise(4, 4, 0));
        fails("on itself", STATE, () -> x.rise(4, 4, 16));
        fails("on one two below", STATE, () -> x.rise(4, 4, 4));
        fails("on one right and one wrong", STATE, () -> x.rise(4, 4, 12));
        fails("in RING 0 on somebody", STATE, () -> x.rise(4, 0, 1));
        fails("on others than PEOPLE alone", STATE, () -> x.rise(4, 4, 32));
        fails("on others than PEOPLE alone", STATE, () -> x.rise(4, 4, Integer.MIN_VALUE));
        due("others than PEOPLE count for nothing", x.rise(4, 4, 8 | -32), 90);
        due("ON", x.person(4, 7), 8);
        x.out(4);
        due("in RING 0 too", x.rise(4, 0, -32), 54);
        due("ON nobody", x.person(4, 7), 0);
    }

    private static void outBorne() {
        for (int full = 19; full <= 20; full++) {
            WakeTower x = told(person(9, 20) + person(9, full) + person(20, 9)
                    + "up 0 ring 0;up 1 ring 0;up 2 ring 1 on ab");
            if (full == 20) {
                due("just borne", x.out(0), 20);
            } else {
                fails("one more", STATE, () -> x.out(0));
                due("both are UP", x.count(6), 7);
                due("ON both", x.person(2, 7), 3);
            }
        }
        WakeTower x = told(ALONE);
        due("the last one", x.out(0), 0);
        due("nobody is UP", x.count(6), 0);
        fails("it is DOWN", STATE, () -> x.out(0));
        fails("no such person", INDEX, () -> x.out(1));
        fails("no such person", INDEX, () -> x.out(-1));
    }

    private static void outHangs() {
        WakeTower x = told(ARCH);
        due("one of two", x.out(0), 40);
        fails("the last one of them", STATE, () -> x.out(1));
        WakeTower y = told(ARCH, "asleep 0");
        fails("the last one that HOLDS", STATE, () -> y.out(1));
        due("the sleeper", y.out(0), 40);
        due("it sleeps yet", y.sleepers(), 1);
        due("2 is ON 1 alone", y.person(2, 7), 2);
        // the person 0 above others
        WakeTower high = told(people(3, 9, 99) + "up 1 ring 0;up 2 ring 0;up 0 ring 1 on bc");
        high.out(1);
        due("0 is ON 2 alone", high.person(0, 7), 4);
        high.out(0);
        due("0 is ON nobody", high.person(0, 7), 0);
    }

    private static void relieveBorne() {
        for (int full = 19; full <= 20; full++) {
            WakeTower x = told(person(9, 99) + person(20, 9) + person(9, full) + "up 0 ring 0;up 1 ring 1 on a");
            if (full == 20) {
                due("just borne by the new one", x.relieve(0, 2), 20);
            } else {
                fails("one more", STATE, () -> x.relieve(0, 2));
                due("the first one is UP", x.count(6), 3);
                due("ON it", x.person(1, 7), 1);
            }
        }
        for (int weight = 50; weight <= 51; weight++) {
            WakeTower x = told(person(9, 50) + person(20, 9) + person(weight, 9) + "up 0 ring 0;up 1 ring 1 on a");
            if (weight == 50) {
                due("the new one is just borne", x.relieve(1, 2), 0);
                due("what bears it", x.person(0, 8), 50);
            } else {
                fails("one more", STATE, () -> x.relieve(1, 2));
            }
        }
    }

    private static void relieveHangs() {
        WakeTower x = told(people(4, 9, 99) + "up 0 ring 0;up 1 ring 1 on a;asleep 2");
        fails("the new one sleeps", STATE, () -> x.relieve(0, 2));
        due("the uppermost may sleep", x.relieve(1, 2), 0);
        due("asleep as it was", x.sleepers(), 4);
        due("ON as the first one was", x.person(2, 7), 1);
        due("a relief of a sleeper", x.relieve(2, 3), 0);
        due("who sleeps yet", x.sleepers(), 4);
        fails("the first one is DOWN", STATE, () -> x.relieve(1, 2));
        fails("the other one is UP", STATE, () -> x.relieve(0, 3));
        fails("both are one", ARGUMENT, () -> x.relieve(0, 0));
        fails("both are one, DOWN", ARGUMENT, () -> x.relieve(1, 1));
        fails("no such person", INDEX, () -> x.relieve(4, 4));
        WakeTower two = told(ARCH, person(10, 100));
        due("one of two below", two.relieve(0, 3), 20);
        due("2 is ON the new one, and ON the other one yet", two.person(2, 7), 10);
        due("the other one bears its share", two.person(1, 8), 20);
        WakeTower high = told(people(4, 9, 99) + "up 1 ring 0;up 2 ring 0;up 0 ring 1 on bc");
        due("one below the person 0", high.relieve(1, 3), 4);
        due("0 is ON the new one", high.person(0, 7), 12);
        fails("no such person", INDEX, () -> x.relieve(0, 4));
        fails("no such person", INDEX, () -> x.relieve(-1, 1));
    }

    private static void leanBorne() {
        for (int full = 19; full <= 20; full++) {
            WakeTower x = told(person(9, 20) + person(9, full) + person(20, 9) + "up 0 ring 0;up 1 ring 0;up 2 ring 1 on a");
            if (full == 20) {
                due("just borne", x.lean(2, 2), 1);
                due("ON", x.person(2, 7), 2);
            } else {
                fails("one more", STATE, () -> x.lean(2, 2));
                due("ON", x.person(2, 7), 1);
                due("on both", x.lean(2, 3), 1);
            }
        }
        WakeTower x = told(ARCH, "asleep 0");
        fails("on the sleeper alone", STATE, () -> x.lean(2, 1));
        due("on the other one", x.lean(2, 2), 3);
        due("on both", x.lean(2, 3), 2);
    }

    private static void leanSets() {
        WakeTower x = told(people(5, 9, 99) + "up 0 ring 0;up 1 ring 0;up 2 ring 1 on a;up 3 ring 2 on c");
        due("others than PEOPLE count for nothing", x.lean(2, 2 | -32), 1);
        due("ON", x.person(2, 7), 2);
        fails("on others than PEOPLE alone", STATE, () -> x.lean(2, -32));
        fails("on nobody", STATE, () -> x.lean(2, 0));
        fails("on one DOWN", STATE, () -> x.lean(2, 16));
        fails("on itself", STATE, () -> x.lean(2, 4));
        fails("on one above", STATE, () -> x.lean(2, 8));
        fails("on one two below", STATE, () -> x.lean(3, 1));
        fails("on one right and one wrong", STATE, () -> x.lean(3, 5));
        fails("in RING 0", STATE, () -> x.lean(0, 0));
        fails("in RING 0", STATE, () -> x.lean(0, 2));
        fails("DOWN", STATE, () -> x.lean(4, 1));
        fails("no such person", INDEX, () -> x.lean(5, 1));
        due("as it is on", x.lean(3, 4), 4);
        due("acts", x.count(10), 2);
        x.hours(3);
        due("falls of another", x.falls(0), 1);
        due("behind hours and a question", x.lean(2, 3), 2);
        due("the hours stay", x.count(3) * 100 + x.person(0, 2), 384);
        due("those UP stay", x.count(6), 15);
        due("ON", x.person(2, 7), 3);
    }

    private static void wakeBorne() {
        for (int full = 19; full <= 20; full++) {
            WakeTower x = told(person(9, full) + person(9, 99) + person(40, 9)
                    + "up 0 ring 0;up 1 ring 0;up 2 ring 1 on ab;asleep 0");
            if (full == 20) {
                due("just borne", x.wake(0), 20);
                due("nobody sleeps", x.sleepers(), 0);
                fails("not ASLEEP", STATE, () -> x.wake(0));
            } else {
                fails("one more", STATE, () -> x.wake(0));
                due("asleep yet", x.sleepers(), 1);
            }
        }
        WakeTower x = told(people(2, 9, 9) + "asleep 0;need 0");
        due("one who is DOWN", x.wake(0), 0);
        fails("not ASLEEP", STATE, () -> x.wake(1));
        fails("no such person", INDEX, () -> x.wake(2));
        fails("no such person", INDEX, () -> x.wake(-1));
    }

    private static void sleepBorne() {
        for (int full = 39; full <= 40; full++) {
            WakeTower x = told(person(9, 20) + person(9, full) + person(40, 9)
                    + "up 0 ring 0;up 1 ring 0;up 2 ring 1 on ab");
            if (full == 40) {
                due("just borne", x.sleep(0), 40);
                due("by 1", x.person(1, 8), 40);
            } else {
                fails("one more", STATE, () -> x.sleep(0));
                due("nobody sleeps", x.sleepers(), 0);
                due("0 bears", x.person(0, 8), 20);
            }
        }
    }

    private static void sleepHangs() {
        WakeTower x = told(ARCH);
        x.sleep(0);
        fails("the last one that HOLDS", STATE, () -> x.sleep(1));
        fails("ASLEEP", STATE, () -> x.sleep(0));
        due("the uppermost", x.sleep(2), 40);
        due("all BORNE by 1", x.person(1, 8), 40);
        WakeTower y = told(ALONE);
        due("nobody is ON it", y.sleep(0), 0);
        fails("no such person", INDEX, () -> y.sleep(1));
        fails("no such person", INDEX, () -> y.sleep(-1));
    }

    private static void needs() {
        WakeTower x = new WakeTower();
        due("0", x.need(0), 1);
        due("8", x.need(8), 0);
        fails("9", ARGUMENT, () -> x.need(9));
        fails("-1", ARGUMENT, () -> x.need(-1));
        fails("MAX", ARGUMENT, () -> x.need(Integer.MAX_VALUE));
        fails("MIN", ARGUMENT, () -> x.need(Integer.MIN_VALUE));
        due("the same once more", x.need(8), 8);
        due("acts", x.count(10), 3);
    }

    // ---- hours

    private static void hours() {
        WakeTower x = underLaw("", ALONE);
        due("1", x.hours(1), 0);
        due("HOUR", x.count(3), 1);
        due("60", x.hours(60), 0);
        due("HOUR", x.count(3), 13);
        due("DAY", x.count(4), 2);
        fails("0", ARGUMENT, () -> x.hours(0));
        fails("61", ARGUMENT, () -> x.hours(61));
        fails("-1", ARGUMENT, () -> x.hours(-1));
        fails("MAX", ARGUMENT, () -> x.hours(Integer.MAX_VALUE));
        fails("MIN", ARGUMENT, () -> x.hours(Integer.MIN_VALUE));
        due("HOUR", x.count(3), 13);
        WakeTower nobody = new WakeTower();
        due("of nobody", nobody.hours(24), 0);
        due("DAY", nobody.count(4), 1);
        due("no DRAW", nobody.seed(1), 1);
    }

    private static int strengthBehind(String law, int full, int n) {
        WakeTower x = underLaw(law, person(9, full) + "up 0 ring 0");
        x.hours(n);
        return x.person(0, 2);
    }

    private static void strengths() {
        due("1 left", strengthBehind("fade 9", 10, 1), 1);
        due("0 left", strengthBehind("fade 10", 10, 1), 0);
        due("0 at least", strengthBehind("fade 11", 10, 1), 0);
        due("0 stays", strengthBehind("fade 11", 10, 2), 0);
        due("FULL 0", strengthBehind("mend 5", 0, 1), 0);
        // it fades by 10 while awake, and mends by 9, 10, 11
        due("FULL at most", strengthBehind("fade 10 if hour < 1;mend 9 if hour > 0", 50, 2), 49);
        due("FULL at most", strengthBehind("fade 10 if hour < 1;mend 10 if hour > 0", 50, 2), 50);
        due("FULL at most", strengthBehind("fade 10 if hour < 1;mend 11 if hour > 0", 50, 2), 50);
        due("FULL at first", strengthBehind("mend 100", 50, 1), 50);
        // less first, 0 at least, then more, FULL at most
        due("from 0", strengthBehind("fade 100;mend 10", 50, 1), 10);
        due("up to FULL", strengthBehind("fade 1;mend 10", 50, 1), 50);
        due("up to FULL", strengthBehind("fade 100;mend 100", 50, 1), 50);
        due("just as much", strengthBehind("fade 7;mend 7", 50, 5), 50);
        WakeTower x = told(person(9, 12) + person(9, 12) + "up 0 ring 0");
        x.hours(2);
        due("without a text: 5 each", x.person(0, 2), 2);
        x.hours(1);
        due("0 at least", x.person(0, 2), 0);
        x.seed(1);
        x.sleep(0);
        x.hours(1);
        due("10 more", x.person(0, 2), 10);
        x.hours(1);
        due("FULL at most", x.person(0, 2), 12);
        due("one DOWN is FULL", x.person(1, 2), 12);
    }

    private static void awake() {
        WakeTower x = underLaw("", people(3, 9, 99) + "up 0 ring 0;up 1 ring 0;asleep 1");
        due("0 at first", x.person(0, 4), 0);
        x.hours(1);
        due("1 more", x.person(0, 4), 1);
        due("0 of a sleeper", x.person(1, 4), 0);
        due("0 of one DOWN", x.person(2, 4), 0);
        x.hours(60);
        x.hours(37);
        due("98", x.person(0, 4), 98);
        x.hours(1);
        due("99", x.person(0, 4), 99);
        x.hours(1);
        due("99 at most", x.person(0, 4), 99);
        x.sleep(0);
        due("99 till the hour", x.person(0, 4), 99);
        x.hours(1);
        due("0 then", x.person(0, 4), 0);
        x.wake(0);
        x.hours(2);
        due("from 0 on", x.person(0, 4), 2);
        x.out(0);
        due("2 of one who came out", x.person(0, 4), 2);
        x.hours(1);
        due("0 then", x.person(0, 4), 0);
    }

    private static void clock() {
        WakeTower x = underLaw("", ALONE, "hour 22;day 998");
        x.hours(1);
        due("HOUR 23", x.count(3) * 10000 + x.count(4), 230998);
        x.hours(1);
        due("HOUR 0", x.count(3) * 10000 + x.count(4), 999);
        x.hours(23);
        due("HOUR 23", x.count(3) * 10000 + x.count(4), 230999);
        x.hours(1);
        due("DAY 1000", x.count(3) * 10000 + x.count(4), 1000);
        x.hours(60);
        due("DAY 1002", x.count(3) * 10000 + x.count(4), 121002);
    }

    // ---- draws

    /** The SEED behind a DRAW, by numbers that do not go round. */
    private static int seedBehind(int seed) {
        return BigInteger.valueOf(1103515245).multiply(BigInteger.valueOf(seed)).add(BigInteger.valueOf(12345)).intValue();
    }

    private static int drawn(int seedBehind) {
        int draw = 0;
        for (int bit = 30; bit >= 16; bit--) {
            draw = 2 * draw + (seedBehind >> bit & 1);
        }
        return draw % 100;
    }

    private static void below() {
        for (int seed = 1; seed <= 40; seed++) {
            int draw = drawn(seedBehind(seed));
            for (int more = 0; more <= 1; more++) {
                WakeTower x = underLaw("drowse " + (draw + more), ALONE);
                x.seed(seed);
                x.hours(1);
                due("DRAW " + draw + ", DROWSES " + (draw + more), x.sleepers(), more);
            }
        }
        WakeTower never = underLaw("drowse 0", ALONE);
        never.hours(60);
        due("0: never", never.sleepers(), 0);
        WakeTower always = underLaw("drowse 100", ALONE);
        for (int seed = 0; seed < 100; seed++) {
            always.seed(seed);
            always.hours(1);
            due("100: always, SEED " + seed, always.sleepers(), 1);
            always.wake(0);
        }
    }

    private static void goesRound() {
        int[] seeds = {0, 1, -1, 2, Integer.MAX_VALUE, Integer.MIN_VALUE, 0x40000000, 0x7fff0000, 0xffff, 12345, -12345};
        for (int seed : seeds) {
            int behind = seedBehind(seed);
            int draw = drawn(behind);
            for (int more = 0; more <= 1; more++) {
                WakeTower x = underLaw("drowse " + (draw + more), ALONE);
                due("SEED at first", x.seed(seed), 1);
                x.hours(1);
                due("asleep from SEED " + seed, x.sleepers(), more);
                due("SEED behind " + seed, x.seed(7), behind);
                due("SEED told", x.seed(8), 7);
            }
        }
    }

    private static void whoDraws() {
        WakeTower x = underLaw("drowse 0", people(4, 9, 99) + "up 0 ring 0;up 1 ring 0;up 2 ring 0;asleep 1");
        x.hours(1);
        due("two that HOLD draw", x.seed(1), seedBehind(seedBehind(1)));
        // by numbers: the second DRAW is of the person 2
        int first = drawn(seedBehind(1));
        int second = drawn(seedBehind(seedBehind(1)));
        due("the draws are unlike", first == second ? 1 : 0, 0);
        law(x, "drowse " + (second + 1) + " if person > 0");
        x.hours(1);
        due("2 sleeps", x.sleepers(), 6);
        x.undo();
        x.seed(1);
        law(x, "drowse " + second + " if person > 0");
        x.hours(1);
        due("2 does not", x.sleepers(), 2);
        WakeTower none = underLaw("drowse 100", people(2, 9, 99) + "up 0 ring 0;asleep 0");
        none.hours(5);
        due("nobody HOLDS: no DRAW", none.seed(1), 1);
        // who falls asleep ahead in the same hour bears nothing then
        WakeTower then = underLaw("drowse 100 if person < 1;drowse 100 if borne > 39", ARCH);
        then.hours(1);
        due("1 bears 40 then", then.sleepers(), 3);
        WakeTower yet = underLaw("drowse 100 if person > 0 and person < 2;drowse 100 if borne > 39", ARCH);
        yet.hours(1);
        due("0 drew ahead of 1", yet.sleepers(), 2);
    }

    // ---- falls

    private static void gives() {
        for (int fade = 5; fade <= 6; fade++) {
            WakeTower x = underLaw("fade " + fade + " if person < 1", person(9, 25) + person(20, 9) + "up 0 ring 0;up 1 ring 1 on a");
            due("STRENGTH 20, 19", x.hours(1), fade == 5 ? 0 : 2);
            due("rows", x.count(9), fade == 5 ? 0 : 2);
        }
        for (int fade = 10; fade <= 11; fade++) {
            WakeTower x = underLaw("fade " + fade, person(9, 10) + "up 0 ring 0");
            due("STRENGTH 0 bears 0", x.hours(1), 0);
            due("STRENGTH", x.person(0, 2), 0);
        }
        // two columns: one gives way in the second hour, the other one in the fourth
        WakeTower later = underLaw("fade 1", person(9, 21) + person(20, 9) + person(9, 23) + person(20, 9)
                + "up 0 ring 0;up 1 ring 1 on a;up 2 ring 0;up 3 ring 1 on c");
        due("in five hours", later.hours(5), 4);
        due("the first of them", later.log(3, 1) * 10 + later.log(3, 2), 10);
        due("the last of them", later.log(0, 1) * 10 + later.log(0, 2), 33);
    }

    private static void rounds() {
        for (int full = 39; full <= 40; full++) {
            // 0 bears 20 of STRENGTH 19; then 1 bears all
            WakeTower x = underLaw("fade 1 if person < 1", person(9, 20) + person(9, full) + person(40, 9)
                    + "up 0 ring 0;up 1 ring 0;up 2 ring 1 on ab;day 5;hour 9");
            due("how many fell", x.hours(1), full == 40 ? 1 : 3);
            due("those UP", x.count(6), full == 40 ? 6 : 0);
            int[][] rows = {{5, 9, 2, 3, 1, 0}, {5, 9, 1, 2, 0, 40}, {5, 9, 0, 1, 0, 20}};
            for (int row = full == 40 ? 2 : 0; row < 3; row++) {
                for (int what = 0; what < 6; what++) {
                    due("log " + row + ", " + what, x.log(full == 40 ? 0 : row, what), rows[row][what]);
                }
            }
            due("ON", x.person(2, 7), full == 40 ? 2 : 0);
        }
        eightRounds();
    }

    /** 99 on seven, each of whom gives way to what the ones ahead of it leave: one each round, then who is ON them. */
    private static void eightRounds() {
        int[] fulls = {15, 16, 19, 24, 32, 49, 98};
        StringBuilder lines = new StringBuilder();
        for (int full : fulls) {
            lines.append(person(1, full));
        }
        String[] texts = {lines + person(99, 9) + "up 0 ring 0;up 1 ring 0;up 2 ring 0;up 3 ring 0;up 4 ring 0",
            "up 5 ring 0;up 6 ring 0;up 7 ring 1 on abcdefg"};
        WakeTower x = underLaw("fade 1 if person < 1", texts);
        due("FALLS of 0", x.falls(0), 8);
        due("ROUNDS of it", x.rounds(0), 7);
        due("the last one", x.fallen(0, 7), 7);
        due("all eight", x.hours(1), 8);
        due("nobody is UP", x.count(6), 0);
        int[] borne = {15, 17, 20, 25, 33, 50, 99, 0};
        for (int i = 0; i < 8; i++) {
            due("who", x.log(7 - i, 2), i);
            due("the round", x.log(7 - i, 3), i + 1);
            due("BORNE", x.log(7 - i, 5), borne[i]);
        }
    }

    private static void atOnce() {
        // both below give way at once, and 2 hangs behind them
        WakeTower two = underLaw("fade 1", person(9, 20) + person(9, 20) + person(40, 99)
                + "up 0 ring 0;up 1 ring 0;up 2 ring 1 on ab");
        due("all three", two.hours(1), 3);
        due("1 in the first round", two.log(1, 2) * 10 + two.log(1, 3), 11);
        due("2 in the second round", two.log(0, 2) * 10 + two.log(0, 3), 22);
        // 0 falls asleep: 1 and 2 hang at once; 3 GIVES WAY in the same round; 4, ON 2, hangs behind them
        WakeTower x = underLaw("drowse 100 if person < 1;fade 1 if person > 2 and person < 4", person(9, 99) + person(1, 9)
                + person(2, 99) + person(9, 7) + person(3, 9) + person(7, 9)
                + "up 0 ring 0;up 3 ring 0;up 1 ring 1 on a;up 2 ring 1 on a;up 5 ring 1 on d;up 4 ring 2 on c");
        due("how many fell", x.hours(1), 5);
        int[][] rows = {{1, 1, 1, 0}, {2, 1, 1, 3}, {3, 1, 0, 7}, {4, 2, 1, 0}, {5, 2, 1, 0}};
        for (int row = 0; row < 5; row++) {
            due("who", x.log(4 - row, 2), rows[row][0]);
            due("round", x.log(4 - row, 3), rows[row][1]);
            due("why", x.log(4 - row, 4), rows[row][2]);
            due("BORNE", x.log(4 - row, 5), rows[row][3]);
        }
        // GIVES WAY and HANGS: that is no HANGING alone
        WakeTower y = underLaw("drowse 100 if person < 1;fade 9 if person > 0", person(9, 99) + person(9, 17) + person(9, 99)
                + "up 0 ring 0;up 1 ring 1 on a;up 2 ring 2 on b");
        due("both", y.hours(1), 2);
        due("1: 0", y.log(1, 4), 0);
        due("2: 1", y.log(0, 4), 1);
        WakeTower z = underLaw("drowse 100 if person < 1;fade 8 if person > 0", person(9, 99) + person(9, 17) + person(9, 99)
                + "up 0 ring 0;up 1 ring 1 on a;up 2 ring 2 on b");
        due("both", z.hours(1), 2);
        due("1 HUNG alone: STRENGTH 9 bears 9", z.log(1, 4), 1);
    }

    private static void awakeByFalling() {
        WakeTower x = underLaw("drowse 100 if person < 1", people(3, 9, 99) + "up 0 ring 0;up 1 ring 1 on a;asleep 1;asleep 2");
        due("the sleeper HANGS", x.hours(1), 1);
        due("it is awake, 0 and the reserve sleep", x.sleepers(), 5);
        due("BORNE", x.log(0, 5), 0);
        due("it HUNG alone", x.log(0, 4), 1);
        due("DOWN", x.reserves(), 6);
    }

    private static void hangs() {
        WakeTower x = underLaw("drowse 100 if person < 1", ARCH);
        due("one of two sleeps", x.hours(1), 0);
        law(x, "drowse 100 if person < 2");
        due("both sleep", x.hours(1), 1);
        due("who HUNG", x.log(0, 2), 2);
        due("sleepers in RING 0 stay UP", x.count(6), 3);
    }

    private static void logTime() {
        WakeTower x = underLaw("drowse 100 if person < 1", people(2, 9, 99) + "up 0 ring 0;up 1 ring 1 on a;hour 23;day 9");
        x.hours(1);
        due("HOUR ahead of its being 1 more", x.log(0, 1), 23);
        due("DAY ahead of it", x.log(0, 0), 9);
        due("HOUR and DAY then", x.count(3) + x.count(4), 10);
        x.wake(0);
        x.rise(1, 1, 1);
        x.hours(3);
        due("the first of three hours", x.log(0, 0) * 100 + x.log(0, 1), 1000);
        due("the one ahead", x.log(1, 0) * 100 + x.log(1, 1), 923);
        due("none behind", x.log(2, 0), NONE);
        due("none to come", x.log(-1, 0), NONE);
        due("none", x.log(Integer.MIN_VALUE, 0), NONE);
        due("none", x.log(Integer.MAX_VALUE, 0), NONE);
        fails("what 6", ELEMENT, () -> x.log(0, 6));
        fails("what -1", ELEMENT, () -> x.log(0, -1));
        fails("what 6 of none", ELEMENT, () -> x.log(-1, 6));
    }

    private static void logRoom() {
        WakeTower x = underLaw("drowse 100 if person < 1", people(8, 1, 99) + "up 0 ring 0");
        for (int hour = 0; hour < 9; hour++) {
            sevenFall(x);
            due("rows", x.count(9), Math.min(60, 7 * (hour + 1)));
            due("the latest", x.log(0, 1) * 10 + x.log(0, 2), hour * 10 + 7);
            if (hour == 7) {
                x.image();
                due("56: the oldest is the first", x.log(55, 1) * 10 + x.log(55, 2), 1);
                due("none ahead of it", x.log(56, 2), NONE);
            }
        }
        due("60: the oldest is the fourth", x.log(59, 1) * 10 + x.log(59, 2), 4);
        due("none ahead of it", x.log(60, 2), NONE);
        due("rows of 3", x.led(3, false), 8);
        due("rows of 4", x.led(4, false), 9);
        due("rows of 0", x.led(0, false), 0);
        due("DAY of none", x.led(0, true), NONE);
        due("DAY of 1", x.led(1, true), 0);
        // so many more that each row of then is another one
        for (int hour = 9; hour < 17; hour++) {
            sevenFall(x);
        }
        due("the latest", x.log(0, 1), 16);
        yes("back()", x.back());
        due("rows of the image", x.count(9), 56);
        for (int ago = 0; ago < 56; ago++) {
            due("who", x.log(ago, 2), 7 - ago % 7);
            due("when", x.log(ago, 1), 7 - ago / 7);
        }
    }

    /** 1 to 7 are ON 0, who falls asleep, so that they fall; then it is woken. */
    private static void sevenFall(WakeTower x) {
        for (int i = 1; i < 8; i++) {
            x.rise(i, 1, 1);
        }
        due("seven fall", x.hours(1), 7);
        x.wake(0);
    }

    // ---- what is undone, and the image

    private static void remembered() {
        WakeTower x = new WakeTower();
        no("none", x.undo());
        for (int i = 1; i <= 12; i++) {
            x.need(i % 9);
            due("acts", x.count(10), i);
        }
        for (int i = 11; i >= 0; i--) {
            yes("undo()", x.undo());
            due("NEED", x.count(5), i == 0 ? 1 : i % 9);
            due("acts", x.count(10), i);
        }
        no("none are left", x.undo());
        due("NEED at first", x.count(5), 1);
        for (int i = 1; i <= 13; i++) {
            x.need(i % 9);
        }
        due("12 at most", x.count(10), 12);
        for (int i = 0; i < 12; i++) {
            yes("undo()", x.undo());
        }
        no("the first one is forgotten", x.undo());
        due("as ahead of the second", x.count(5), 1);
        due("none", x.count(10), 0);
    }

    private static void acts() {
        WakeTower x = underLaw("", people(4, 9, 99) + "up 0 ring 0;up 1 ring 0;up 2 ring 1 on ab");
        Call[] each = {() -> x.hours(60), () -> x.rise(3, 0, 0), () -> x.out(3), () -> x.relieve(2, 3), () -> x.lean(3, 1),
            () -> x.sleep(1), () -> x.wake(1), () -> x.need(1), () -> x.hours(1)};
        for (int i = 0; i < each.length; i++) {
            each[i].of();
            due("acts", x.count(10), i + 1);
        }
        int[][] due = {{11, 13, 0}, {11, 12, 0}, {11, 12, 0}, {11, 12, 2}, {11, 12, 0}, {11, 12, 0}, {7, 12, 0}, {15, 12, 0},
            {7, 12, 0}, {7, 0, 0}};
        for (int i = 0; i < each.length; i++) {
            due("UP", x.count(6), due[i][0]);
            due("HOUR", x.count(3), due[i][1]);
            due("ASLEEP", x.sleepers(), due[i][2]);
            yes("undo()", x.undo());
        }
        due("UP at first", x.count(6), 7);
        due("HOUR at first", x.count(3), 0);
        due("DAY at first", x.count(4), 0);
        no("no more", x.undo());
    }

    private static void noActs() {
        WakeTower x = told(ARCH);
        x.seed(5);
        x.image();
        x.trial(3, true);
        x.span(3, true);
        x.ahead(0, 3);
        x.soon();
        x.falls(0);
        x.more(2);
        x.end(0);
        x.guard(0);
        x.feed(0, 0, 0, 0, 0);
        due("none is one", x.count(10), 0);
        fails("an act that cannot be", STATE, () -> x.rise(0, 0, 0));
        fails("hours that are none", ARGUMENT, () -> x.hours(61));
        fails("NEED that is none", ARGUMENT, () -> x.need(9));
        due("none is one", x.count(10), 0);
        no("none", x.undo());
        due("SEED is not undone", x.seed(1), 5);
        x.seed(6);
        x.need(2);
        x.seed(7);
        yes("undo()", x.undo());
        due("SEED as ahead of the act", x.seed(1), 6);
    }

    private static void forgotten() {
        WakeTower x = told(ALONE);
        x.need(2);
        due("a wrong text", wrongText(x), 1);
        feed(x, "");
        due("a text of no LINE", x.tower() * 10 + x.count(10), 20);
        no("none", x.undo());
        due("NEED", x.count(5), 2);
        x.need(3);
        due("a law of no LINE", law(x, "") * 10 + x.count(10), 0);
        no("none", x.undo());
        x.need(4);
        no("no image", x.back());
        due("nothing happened", x.count(10), 1);
        x.image();
        due("an image is kept", x.count(10), 1);
        yes("gone back", x.back());
        due("none", x.count(10), 0);
        no("none", x.undo());
        due("NEED", x.count(5), 4);
        for (int i = x.count(1); i < 12; i++) {
            tower(x, "");
        }
        x.need(5);
        feed(x, "need 7");
        fails("a 13th text", UNSUPPORTED, x::tower);
        due("changes nothing", x.count(10), 1);
        yes("undo()", x.undo());
        due("NEED", x.count(5), 4);
    }

    private static int wrongText(WakeTower x) {
        wrongTower(x, "need 7;", 7);
        wrongLaw(x, "fade 7;", 7);
        rows(x, 200, 200);
        fails("solo()", ARGUMENT, x::solo);
        return x.count(10);
    }

    private static void undoneAndDone() {
        WakeTower x = new WakeTower();
        for (int i = 0; i < 12; i++) {
            x.need(i % 2 == 0 ? 7 : 8);
        }
        for (int i = 0; i < 5; i++) {
            x.undo();
        }
        due("7 are left", x.count(10), 7);
        for (int i = 0; i < 6; i++) {
            x.need(i);
        }
        due("12 at most", x.count(10), 12);
        int[] due = {4, 3, 2, 1, 0, 7, 8, 7, 8, 7, 8, 7};
        for (int need : due) {
            yes("undo()", x.undo());
            due("NEED", x.count(5), need);
        }
        no("no more", x.undo());
        x.need(2);
        yes("undo()", x.undo());
        due("NEED", x.count(5), 7);
    }

    private static void undoneBut() {
        WakeTower x = told(ARCH);
        x.need(3);
        x.image();
        x.need(4);
        wrongTower(x, "need", 4);
        feed(x, "need 7");
        yes("undo()", x.undo());
        due("fault() stays", x.fault(), 4);
        no("the TAPE has six bytes", x.end(7));
        yes("the TAPE has six bytes", x.end(6));
        yes("undo()", x.undo());
        yes("THE IMAGE stays", x.back());
        due("NEED of it", x.count(5), 3);
        due("the TAPE stays", x.tower(), 2);
        due("NEED of the TAPE", x.count(5), 7);
        // all else is as ahead of it: the log, the SEED, STRENGTH, HOURS awake, the clock
        WakeTower y = underLaw("fade 1;drowse 100 if person < 1", people(2, 9, 99) + "up 0 ring 0;up 1 ring 1 on a;hour 23");
        y.hours(2);
        due("a row", y.count(9), 1);
        yes("undo()", y.undo());
        due("no row", y.count(9) + y.led(1, false), 0);
        due("no row", y.log(0, 0), NONE);
        due("SEED", y.seed(1), 1);
        due("STRENGTH", y.person(0, 2), 99);
        due("HOURS awake", y.person(1, 4), 0);
        due("HOUR", y.count(3), 23);
        due("DAY", y.count(4), 0);
        due("UP", y.count(6), 3);
        due("asleep", y.sleepers(), 0);
        due("the law is told yet", y.count(2), 2);
    }

    private static void image() {
        WakeTower x = new WakeTower();
        no("none was kept", x.back());
        x.need(4);
        no("none was kept", x.back());
        due("nothing happened", x.count(5) * 10 + x.count(10), 41);
        yes("undo()", x.undo());
        x.image();
        tower(x, ARCH);
        law(x, "fade 1");
        x.hours(2);
        wrongTower(x, "need", 4);
        feed(x, "need 7");
        yes("back()", x.back());
        long[] counts = {0, 0, NONE, 0, 0, 1, 0, 0, 0, 0, 0};
        for (int i = 0; i < counts.length; i++) {
            due("count(" + i + ")", x.count(i), counts[i]);
        }
        due("fault() stays", x.fault(), 4);
        fails("nobody is there", INDEX, () -> x.person(0, 0));
        due("the TAPE stays", x.tower(), 1);
        due("NEED", x.count(5), 7);
        yes("once more", x.back());
        due("NEED", x.count(5), 1);
    }

    private static void oneImage() {
        WakeTower x = told(ARCH);
        x.image();
        x.need(5);
        x.seed(9);
        x.image();
        x.need(6);
        x.seed(8);
        yes("back()", x.back());
        due("the latest image", x.count(5), 5);
        due("SEED", x.seed(9), 9);
        x.sleep(0);
        x.hours(1);
        yes("back()", x.back());
        due("what is done behind leaves it", x.sleepers() + x.count(3), 0);
        due("STRENGTH", x.person(1, 2), 100);
        yes("gone back: an image of one's own", x.back());
        // an image kept behind a fall has the rows of it
        WakeTower y = underLaw("drowse 100 if person < 1", people(2, 9, 99) + "up 0 ring 0;up 1 ring 1 on a");
        y.hours(1);
        y.image();
        y.wake(0);
        y.rise(1, 1, 1);
        y.hours(1);
        due("two rows", y.count(9), 2);
        yes("back()", y.back());
        due("one row", y.count(9), 1);
        due("its HOUR", y.log(0, 1), 0);
    }
}
