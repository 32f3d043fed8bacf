/** By hand, promise by promise: ordinary answers, the edges that the document names, and wrong inputs. */
public final class PromiseTest extends Checks {
    /** Three rings: 0 bears 25, 1 bears 65, 2 and 3 bear 10 each; 5 is a reserve. */
    private static final String THREE_RINGS = "person weight 60 full 200;person weight 50 full 150;"
            + "person weight 40 full 90;person weight 30 full 100;person weight 20 full 60;person weight 70 full 300;"
            + "up 0 ring 0;up 1 ring 0;up 2 ring 1 on ab;up 3 ring 1 on b;up 4 ring 2 on cd;need 4;hour 22;day 3";
    /** 2 stands on 0 and 1, who bear 20 each. */
    private static final String ARCH = "person weight 10 full 100;person weight 10 full 100;person weight 40 full 100;"
            + "up 0 ring 0;up 1 ring 0;up 2 ring 1 on ab";
    /** 1 on 0, 2 on 1; 3 is a reserve. */
    private static final String COLUMN = "person weight 10 full 100;person weight 20 full 100;"
            + "person weight 30 full 100;person weight 5 full 40;up 0 ring 0;up 1 ring 1 on a;up 2 ring 2 on b";
    /** An hour fades 0 to 25, less than the 28 it bears. */
    private static final String FRAIL = "person weight 10 full 30;person weight 28 full 50;up 0 ring 0;up 1 ring 1 on a;"
            + "hour 5;day 7";

    public static void main(String[] args) {
        Call[] promises = {
            PromiseTest::newObject, PromiseTest::feeding, PromiseTest::ending, PromiseTest::towers, PromiseTest::laws,
            PromiseTest::faults, PromiseTest::persons, PromiseTest::hours, PromiseTest::rises, PromiseTest::outs1,
            PromiseTest::reliefs, PromiseTest::leans, PromiseTest::wakes, PromiseTest::falling, PromiseTest::needs,
            PromiseTest::totals, PromiseTest::grounds, PromiseTest::heights, PromiseTest::weakests, PromiseTest::mores,
            PromiseTest::outsOfAll, PromiseTest::sleepsOfAll, PromiseTest::fallsOfOne, PromiseTest::roundsOfOne,
            PromiseTest::fallens, PromiseTest::keys, PromiseTest::pillars, PromiseTest::lefts, PromiseTest::guards,
            PromiseTest::solos, PromiseTest::feels, PromiseTest::sures, PromiseTest::frees, PromiseTest::boths,
            PromiseTest::asks, PromiseTest::pushes, PromiseTest::tells, PromiseTest::heralds, PromiseTest::cuts,
            PromiseTest::rosters, PromiseTest::pairs, PromiseTest::dearests, PromiseTest::rests, PromiseTest::odds,
            PromiseTest::alones, PromiseTest::tireds, PromiseTest::twins, PromiseTest::rings, PromiseTest::reserves,
            PromiseTest::sleepers, PromiseTest::soons, PromiseTest::aheads, PromiseTest::trials, PromiseTest::spans,
            PromiseTest::leds, PromiseTest::logs, PromiseTest::seeds, PromiseTest::undoes, PromiseTest::images,
            PromiseTest::backs, PromiseTest::counts,
        };
        for (int i = 0; i < promises.length; i++) {
            run("promise " + (i + 1), promises[i]);
        }
        end("PromiseTest");
    }

    // ---- 1 to 6

    private static void newObject() {
        WakeTower x = new WakeTower();
        long[] counts = {0, 0, NONE, 0, 0, 1, 0, 0, 0, 0, 0};
        for (int i = 0; i < counts.length; i++) {
            due("count(" + i + ")", x.count(i), counts[i]);
        }
        due("NONE", WakeTower.NONE, -1);
        due("fault()", x.fault(), NONE);
        due("weakest()", x.weakest(), NONE);
        due("key()", x.key(), NONE);
        due("pillars()", x.pillars(), 1);
        due("left()", x.left(), 0);
        due("herald()", x.herald(), NONE);
        due("dearest()", x.dearest(), NONE);
        due("tired()", x.tired(), NONE);
        due("total() + ground() + height()", x.total() + x.ground() + x.height(), 0);
        due("outs() | sleeps() | alone()", x.outs() | x.sleeps() | x.alone(), 0);
        due("hours(60)", x.hours(60), 0);
        fails("person(0, 0)", INDEX, () -> x.person(0, 0));
    }

    private static void feeding() {
        WakeTower x = new WakeTower();
        // "need 7; hour 9;day 5" in numbers, of each the highest byte first
        due("feed", x.feed(0x6e656564, 0x20373b20, 0x686f7572, 0x20393b64, 0x61792035), 20);
        due("tower()", x.tower(), 1);
        due("NEED", x.count(5), 7);
        due("HOUR", x.count(3), 9);
        due("DAY", x.count(4), 5);
        for (int i = 1; i <= 20; i++) {
            due("feed " + i, x.feed(-1, 0, Integer.MIN_VALUE, 1, 2), 20 * i);
        }
        due("feed over 400", x.feed(0, 0, 0, 0, 0), NONE);
        no("none came", x.end(401));
        yes("400 are there", x.end(381));
        due("feed at 381", x.feed(0, 0, 0, 0, 0), NONE);
        yes("end(380)", x.end(380));
        due("feed at 380", x.feed(0, 0, 0, 0, 0), 400);
        x.end(0);
        // bytes above 127 stay what they are: none is a blank or a letter
        x.feed(0xa0a0a0a0, 0xe1e1e1e1, 0, 0, 0);
        fails("tower()", ARGUMENT, x::tower);
        due("fault()", x.fault(), 0);
    }

    private static void ending() {
        WakeTower x = new WakeTower();
        yes("end(0) of none", x.end(0));
        no("end(1) of none", x.end(1));
        x.feed(0x6e656564, 0x20333233, 0, 0, 0);
        no("end(-1)", x.end(-1));
        no("end(Integer.MIN_VALUE)", x.end(Integer.MIN_VALUE));
        no("end(21)", x.end(21));
        yes("end(20)", x.end(20));
        yes("end(6)", x.end(6));
        no("end(7)", x.end(7));
        x.tower();
        due("the first bytes stay", x.count(5), 3);
        no("the tape is used up", x.end(1));
    }

    private static void towers() {
        WakeTower x = new WakeTower();
        feed(x, "  person   weight 60full 200 ; up0ring0;need 02  ");
        due("tower()", x.tower(), 1);
        due("PEOPLE", x.count(0), 1);
        due("UP", x.count(6), 1);
        due("NEED", x.count(5), 2);
        due("STRENGTH is FULL", x.person(0, 2), 200);
        feed(x, "   ");
        due("blanks alone", x.tower(), 2);
        feed(x, "person weight 99 full 0;up 1 ring 1 on a;asleep 1;hour 23;day 999");
        due("behind the ones before", x.tower(), 3);
        due("PEOPLE", x.count(0), 2);
        due("one asleep", x.sleepers(), 2);
        due("what 0 bears", x.person(0, 8), 99);
        for (int i = 4; i <= 12; i++) {
            due("tower() of none", x.tower(), i);
        }
        feed(x, "need 5");
        fails("a 13th", UNSUPPORTED, x::tower);
        due("fault() of a right text", x.fault(), NONE);
        no("the tape is used up", x.end(1));
        wrongTower(x, "need", 4);
        due("NEED stays", x.count(5), 2);
        due("texts", x.count(1), 12);
        WakeTower y = told("person weight 1 full 1", "asleep 0");
        due("a reserve asleep", y.sleepers(), 1);
        feed(y, "person weight 1 full 1;person weight 1 full 1;person weight 1 full 1;person weight 1 full 1;"
                + "person weight 1 full 1;person weight 1 full 1;person weight 1 full 1;up 7 ring 0;up 0 ring 1 on h;"
                + "need 8;hour 0;day 0");
        due("8 people and 12 lines", y.tower(), 3);
        due("those UP", y.count(6), 129);
        due("still asleep", y.sleepers(), 1);
        feed(y, "need 0");
        y.tower();
        due("NEED 0", y.count(5), 0);
        feed(y, "day 1;day 1;day 1;day 1;day 1;day 1;day 1;day 1;day 1;day 1;day 1;day 1;day 1;day 14 ");
        due("14 lines", y.tower(), 5);
        due("DAY", y.count(4), 14);
    }

    private static void laws() {
        WakeTower x = told(COLUMN);
        due("FADES without", x.person(0, 9), 5);
        due("MENDS without", x.person(3, 10), 10);
        due("law()", law(x, "fade 3;fade 4 if top;mend 100 if down;drowse 0;drowse 7 if borne > 29 and not ring > 0"), 5);
        due("LINES", x.count(2), 5);
        due("FADES of the top", x.person(2, 9), 7);
        due("FADES of another", x.person(0, 9), 3);
        due("MENDS of a reserve", x.person(3, 10), 100);
        due("MENDS of one up", x.person(0, 10), 0);
        due("DROWSES of the lowest", x.person(0, 11), 7);
        due("DROWSES of the middle", x.person(1, 11), 0);
        due("a law of no lines", law(x, " "), 0);
        due("LINES", x.count(2), 0);
        due("FADES by none", x.person(0, 9), 0);
        due("MENDS by none", x.person(3, 10), 0);
        due("DROWSES by none", x.person(0, 11), 0);
        law(x, "fade 9");
        feed(x, "fade 8;");
        fails("law()", ARGUMENT, x::law);
        due("the law before stays", x.person(0, 9), 9);
        due("12 lines", law(x, "fade 1;fade 1;fade 1;fade 1;fade 1;fade 1;fade 1;fade 1;fade 1;fade 1;fade 1;fade 1"), 12);
        due("FADES by 12", x.person(0, 9), 12);
        lawSums(x);
    }

    private static void lawSums(WakeTower x) {
        // 0 bears 50, 1 bears 30, 2 nothing
        String[] holds = {"person < 1", "borne > 49", "borne < 51", "ring + 1 < 2", "strength > 99", "weight<11",
            "hour + 0 < 1", "awake < 1", "top or ring < 1", "down or not down and ring < 1",
            "(top or not down) and ring < 1", "not not ring < 1", "((((((ring<1))))))", "not(not(not asleep and ring<1))",
            "borne+borne>99", "1+1+1>2", "000<001", "not top", "not asleep and not down", "person+borne>49 and 1<2"};
        String deep = "1+1<1+1+1 and (top or top and 1<1+1 or ";
        due("a law that is deep", law(x, "fade 1 if top or not top and (" + deep + deep + deep + deep
                + "1+1+1<1+1+1+1)))))"), 1);
        due("it holds", x.person(0, 9), 1);
        law(x, "fade 1 if top or not top and (" + deep + deep + deep + deep + "1+1+1+1<1+1+1+1)))))");
        due("it does not", x.person(0, 9), 0);
        for (String condition : holds) {
            law(x, "fade 1 if " + condition);
            due("fade if " + condition, x.person(0, 9), 1);
        }
        String[] fails = {"person > 0", "borne > 50", "borne < 50", "1 < 1", "1 > 1", "top", "down", "asleep",
            "not not top", "top and ring < 1", "asleep or down or top", "not (ring < 1 or top)", "hour > 0",
            "not ring < 1 or top", "asleep and top or down"};
        for (String condition : fails) {
            law(x, "fade 1 if " + condition);
            due("fade if " + condition, x.person(0, 9), 0);
        }
        law(x, "fade 1 if ring > 0; mend 1 if borne > 0; drowse 1 if top");
        due("the RING of a reserve is 0", x.person(3, 9), 0);
        due("BORNE of a reserve is 0", x.person(3, 10), 0);
        due("a reserve is no top", x.person(3, 11), 0);
        due("the uppermost is top", x.person(2, 11), 1);
    }

    private static void faults() {
        String p = "person weight 9 full 9;";
        Object[][] wrongs = {
            {"x", 0}, {";", 0}, {"  5", 2}, {"person", 6}, {"personweight 1 full 1", 0}, {"person weight", 13},
            {"person weight 0 full 1", 14}, {"person weight 100 full 1", 14}, {"person weight 0001 full 1", 14},
            {"person weight a full 1", 14}, {"person weight 1", 15}, {"person weight 1 fall 1", 16},
            {"person weight 1 full 1000", 21}, {"person weight 1 full", 20}, {"person weight 1 full 1 x", 23},
            {"person weight 1 full 1;", 23}, {"person weight 1 full 1;  ", 25}, {"up 0 ring 0", 3},
            {p + "up 1 ring 0", 26}, {p + "up 0 rang 0", 28}, {p + "up 0 ring 5", 33}, {p + "up 0 ring", 32},
            {p + "up 0 ring 1", 34}, {p + "up 0 ring 1;", 34}, {p + "up 0 ring 1 on", 37},
            {p + "up 0 ring 1 on a", 38}, {p + "up 0 ring 1 on 1", 38}, {p + "up 0 ring 0 on a", 35},
            {p + "up 0 ring 0;up 0 ring 0", 38}, {p + p + "up 0 ring 0;up 1 ring 1 on aa", 73},
            {p + p + "up 0 ring 0;up 1 ring 1 on b", 73}, {p + p + "up 0 ring 0;up 1 ring 1 on c", 73},
            {p + p + "up 0 ring 0;up 1 ring 1 on ab", 73}, {p + p + "up 0 ring 0;up 1 ring 2 on a", 73},
            {p + p + "up 0 ring 0;up 1 ring 1 on A", 73}, {p + p + "up 0 ring 0;up 1 ring 1 on a b", 75},
            {p + "asleep 1", 30}, {p + "asleep 0;asleep 0", 39}, {"need 9", 5}, {"need -1", 5}, {"hour 24", 5},
            {"day 1000", 4}, {"day 1 day 2", 6}, {"day 1;;day 2", 6}, {"day 1,day 2", 5}, {"\tday 1", 0}, {"day 1\0", 5},
            {"Day 1", 0}, {"daya 1", 0}, {"dayz 1", 0}, {p + p + "up 0 ring 0;up 1 ring 1 on az", 73},
            {"day 1;day 1;day 1;day 1;day 1;day 1;day 1;day 1;day 1;day 1;day 1;day 1;day 1;day 1; day 1", 85},
            {p + p + p + p + p + p + p + p + p, 184},
            {p + "person weight 50 full 9;up 0 ring 0;up 1 ring 1 on a ", 76},
            {p + p + "up 0 ring 0;up 1 ring 1 on a;asleep 0", 83},
        };
        for (Object[] row : wrongs) {
            WakeTower x = new WakeTower();
            wrongTower(x, (String) row[0], (Integer) row[1]);
            due("nothing stays of " + row[0], x.count(0) + x.count(1) + x.count(4), 0);
        }
        lawFaults();
        WakeTower x = new WakeTower();
        wrongTower(x, "need", 4);
        feed(x, "need 1");
        x.tower();
        due("fault() of a right text behind a wrong one", x.fault(), NONE);
        feed(x, "fade");
        fails("law()", ARGUMENT, x::law);
        due("fault() of a law", x.fault(), 4);
        rows(x, 200, 200);
        fails("guard", ARGUMENT, () -> x.guard(0));
        due("rows of reliefs are no text", x.fault(), 4);
    }

    private static void lawFaults() {
        Object[][] wrongs = {
            {"fade", 4}, {"fade 101", 5}, {"fade 0100", 5}, {"fade x", 5}, {"tax 3", 0}, {"fades 3", 0}, {";", 0},
            {"fade 3;", 7}, {"fade 3; ", 8}, {"fade 3 top", 7}, {"fade 3 if", 9}, {"fade 3 if ", 10},
            {"fade 3 if up", 10}, {"fade 3 if hour", 14}, {"fade 3 if hour hour", 15}, {"fade 3 if hour <", 16},
            {"fade 3 if hour < top", 17}, {"fade 3 if hour < 1000", 17}, {"fade 3 if hour + < 3", 17},
            {"fade 3 if hour < 3 < 4", 19}, {"fade 3 if top <", 14}, {"fade 3 if asleep + 1 < 2", 17},
            {"fade 3 if top and", 17}, {"fade 3 if top or ;", 17}, {"fade 3 if (top", 14}, {"fade 3 if top)", 13},
            {"fade 3 if ()", 11}, {"fade 3 if not", 13}, {"fade 3 if (hour) < 3", 15}, {"fade 3 if top tip", 14},
            {"fade 3 if not not not not not not not top", 34}, {"fade 3 if (((((((top)))))))", 16},
            {"fade 3 if not (not (not (not top)))", 25}, {"fade 3 if hour = 3", 15}, {"fade 3 if top,", 13},
            {"mend 5;mend 5;mend 5;mend 5;mend 5;mend 5;mend 5;mend 5;mend 5;mend 5;mend 5;mend 5;mend 5", 84},
            {"mend 5;mend 5;mend 5;mend 5;mend 5;mend 5;mend 5;mend 5;mend 5;mend 5;mend 5;mend 5;", 84},
        };
        for (Object[] row : wrongs) {
            wrongLaw(new WakeTower(), (String) row[0], (Integer) row[1]);
        }
        WakeTower x = new WakeTower();
        due("six deep", law(x, "fade 3 if not (not (not (top)))"), 1);
        due("six deep, and again", law(x, "fade 3 if ((((((top)))))) and not not not not not not top"), 1);
    }

    // ---- 7 to 15

    private static void persons() {
        WakeTower x = told(THREE_RINGS);
        long[][] all = {
            {60, 200, 200, 0, 0, 1, 0, 0, 25, 5, 0, 0, 175, 22}, {50, 150, 150, 0, 0, 1, 0, 0, 65, 5, 0, 0, 85, 59},
            {40, 90, 90, 0, 0, 1, 1, 3, 10, 5, 0, 0, 80, 9}, {30, 100, 100, 0, 0, 1, 1, 2, 10, 5, 0, 0, 90, 9},
            {20, 60, 60, 0, 0, 1, 2, 12, 0, 5, 0, 0, 60, 0}, {70, 300, 300, 0, 0, 0, NONE, 0, 0, 0, 10, 0, 0, 0}};
        for (int i = 0; i < all.length; i++) {
            for (int what = 0; what < 14; what++) {
                due("person(" + i + ", " + what + ")", x.person(i, what), all[i][what]);
            }
        }
        x.sleep(4);
        due("ASLEEP", x.person(4, 3), 1);
        due("SPARE of a sleeper", x.person(4, 12), 0);
        due("FADES of a sleeper", x.person(4, 9), 0);
        due("MENDS of a sleeper", x.person(4, 10), 10);
        // 3 bears 20 alone and 0, 1 share 40, when 2 sleeps
        x.sleep(2);
        due("a sleeper bears nothing", x.person(2, 8), 0);
        due("who holds bears all", x.person(3, 8), 20);
        due("0 then", x.person(0, 8), 20);
        due("1 then", x.person(1, 8), 70);
        due("ON of a sleeper", x.person(2, 7), 3);
        WakeTower odd = told("person weight 1 full 9;person weight 1 full 9;person weight 1 full 9;"
                + "person weight 5 full 9;up 2 ring 0;up 1 ring 0;up 0 ring 0;up 3 ring 1 on cba");
        due("the least numbers have 1 more", odd.person(0, 8) * 100 + odd.person(1, 8) * 10 + odd.person(2, 8), 221);
        fails("person(6, 0)", INDEX, () -> x.person(6, 0));
        fails("person(-1, 99)", INDEX, () -> x.person(-1, 99));
        fails("person(0, 14)", ELEMENT, () -> x.person(0, 14));
        fails("person(0, -1)", ELEMENT, () -> x.person(0, -1));
    }

    private static void hours() {
        WakeTower x = told(COLUMN);
        due("hours(3)", x.hours(3), 0);
        due("STRENGTH fades", x.person(0, 2), 85);
        due("HOURS awake", x.person(0, 4), 3);
        due("FULL at most", x.person(3, 2), 40);
        due("a reserve is not awake", x.person(3, 4), 0);
        due("HOUR", x.count(3), 3);
        fails("hours(0)", ARGUMENT, () -> x.hours(0));
        fails("hours(61)", ARGUMENT, () -> x.hours(61));
        WakeTower frail = told(FRAIL);
        due("both come down", frail.hours(1), 2);
        due("nobody is UP", frail.count(6), 0);
        due("STRENGTH is 0 at least", floor().person(0, 2), 0);
        due("less first, then more", mended().person(0, 2), 10);
        due("FULL at most", capped().person(0, 2), 50);
        drawing();
        clock();
        sleepersInHours();
    }

    private static WakeTower floor() {
        WakeTower x = underLaw("fade 100", "person weight 1 full 50;up 0 ring 0");
        x.hours(1);
        return x;
    }

    private static WakeTower mended() {
        WakeTower x = underLaw("fade 100;mend 10", "person weight 1 full 50;up 0 ring 0");
        x.hours(1);
        return x;
    }

    private static WakeTower capped() {
        WakeTower x = underLaw("fade 3;mend 10", "person weight 1 full 50;up 0 ring 0");
        x.hours(2);
        return x;
    }

    private static void drawing() {
        // the draws from SEED 1: 16838, 5758, 10113, 17515, 31051, 5627
        String three = "person weight 9 full 99;person weight 9 full 99;person weight 9 full 99;person weight 9 full 99;"
                + "up 0 ring 0;up 1 ring 0;up 3 ring 0";
        WakeTower x = underLaw("drowse 39", three);
        x.hours(1);
        due("38 and 13 are below 39, 58 is not; a reserve draws not", x.sleepers(), 9);
        x.hours(1);
        due("the one awake drew 15", x.sleepers(), 11);
        WakeTower y = underLaw("drowse 38", three);
        y.hours(1);
        due("38 is not below 38", y.sleepers(), 8);
        y.hours(1);
        due("15 and 51", y.sleepers(), 9);
        // DROWSES by all as it is then: when 0 sleeps, 1 bears 40
        WakeTower z = underLaw("drowse 100 if person < 1;drowse 100 if borne > 20", ARCH);
        due("2 hangs then", z.hours(1), 1);
        due("both sleep", z.sleepers(), 3);
        due("FADES by all as it was ahead", fadesByBorne().person(1, 2), 93);
    }

    private static WakeTower fadesByBorne() {
        // 1 fades by 7, as it bears 20 ahead of the hour, though it bears 40 behind it
        WakeTower x = underLaw("fade 7 if borne < 30;fade 50 if borne > 30;drowse 100 if person < 1", ARCH);
        x.hours(1);
        due("1 bears 40 then", x.person(1, 8), 40);
        return x;
    }

    private static void clock() {
        WakeTower x = underLaw("", "person weight 1 full 50;up 0 ring 0;hour 22;day 3");
        x.hours(1);
        due("HOUR 23", x.count(3), 23);
        x.hours(1);
        due("HOUR 0", x.count(3), 0);
        due("the next DAY", x.count(4), 4);
        x.hours(60);
        due("HOUR behind 60", x.count(3), 12);
        due("DAY behind 60", x.count(4), 6);
        x.hours(60);
        due("awake 99 at most", x.person(0, 4), 99);
        WakeTower y = underLaw("fade 10 if hour > 22", "person weight 1 full 50;up 0 ring 0;hour 22");
        y.hours(1);
        due("the law of HOUR 22", y.person(0, 2), 50);
        y.hours(1);
        due("the law of HOUR 23", y.person(0, 2), 40);
    }

    private static void sleepersInHours() {
        WakeTower x = told(COLUMN);
        x.hours(3);
        x.sleep(2);
        due("HOURS awake stay till the hour", x.person(2, 4), 3);
        x.hours(1);
        due("HOURS awake of a sleeper", x.person(2, 4), 0);
        due("a sleeper mends", x.person(2, 2), 95);
        // a sleeper that hangs falls, and sleeps no more
        WakeTower y = underLaw("drowse 100 if person < 1", "person weight 9 full 99;person weight 9 full 99;"
                + "up 0 ring 0;up 1 ring 1 on a;asleep 1");
        due("it hangs", y.hours(1), 1);
        due("it is not asleep any more", y.sleepers(), 1);
        due("it is a reserve", y.reserves(), 2);
    }

    private static void rises() {
        WakeTower x = told(COLUMN);
        // 3 beside 0: nothing more is borne; then it bears nothing
        due("rise(3, 0, 0)", x.rise(3, 0, 1 << 20), 80);
        due("RING", x.person(3, 6), 0);
        due("ON", x.person(3, 7), 0);
        x.undo();
        due("rise(3, 3, 4)", x.rise(3, 3, 4 | -256), 95);
        due("RING", x.person(3, 6), 3);
        due("ON", x.person(3, 7), 4);
        fails("it is UP", STATE, () -> x.rise(3, 0, 0));
        x.undo();
        fails("no such person", INDEX, () -> x.rise(4, 9, 0));
        fails("no such person", INDEX, () -> x.rise(4, 0, 0));
        fails("no such RING", INDEX, () -> x.rise(0, 5, 0));
        fails("no such RING", INDEX, () -> x.rise(3, -1, 0));
        fails("ON somebody in RING 0", STATE, () -> x.rise(3, 0, 1));
        fails("ON nobody in RING 1", STATE, () -> x.rise(3, 1, 0));
        fails("ON people that there are not", STATE, () -> x.rise(3, 1, 16));
        fails("ON the same RING", STATE, () -> x.rise(3, 1, 2));
        fails("ON some that are right alone", STATE, () -> x.rise(3, 1, 3));
        fails("ON itself", STATE, () -> x.rise(3, 1, 8));
        due("nothing changed", x.count(6), 7);
        due("nothing to undo", x.count(10), 0);
        WakeTower heavy = told(FRAIL, "person weight 3 full 9");
        fails("0 would give way", STATE, () -> heavy.rise(2, 2, 2));
        WakeTower light = told(FRAIL, "person weight 2 full 9");
        due("just borne", light.rise(2, 2, 2), 32);
        WakeTower hung = told("person weight 9 full 9;person weight 9 full 9;up 0 ring 0;asleep 0");
        fails("it would hang", STATE, () -> hung.rise(1, 1, 1));
        WakeTower sleeper = told("person weight 9 full 9;person weight 9 full 9;up 0 ring 0;asleep 1");
        due("a sleeper comes in", sleeper.rise(1, 1, 1), 9);
        due("asleep as it was", sleeper.sleepers(), 2);
    }

    private static void outs1() {
        WakeTower x = told(THREE_RINGS);
        due("out(4)", x.out(4), 70);
        due("those UP", x.count(6), 15);
        due("its RING", x.person(4, 6), NONE);
        due("its ON", x.person(4, 7), 0);
        due("its STRENGTH stays", x.person(4, 2), 60);
        fails("it is DOWN", STATE, () -> x.out(4));
        fails("3 would hang", STATE, () -> x.out(1));
        // 2 stands on 1 alone then, who bears 40 + 30
        due("out(0)", x.out(0), 70);
        due("nobody is ON it", x.person(2, 7), 2);
        fails("no such person", INDEX, () -> x.out(6));
        fails("no such person", INDEX, () -> x.out(-1));
        WakeTower weak = told("person weight 9 full 20;person weight 9 full 19;person weight 20 full 9;"
                + "up 0 ring 0;up 1 ring 0;up 2 ring 1 on ab");
        fails("1 would give way", STATE, () -> weak.out(0));
        due("0 would not", weak.out(1), 20);
        WakeTower sleeper = told("person weight 9 full 9;up 0 ring 0;asleep 0");
        sleeper.out(0);
        due("asleep as it was", sleeper.sleepers(), 1);
    }

    private static void reliefs() {
        WakeTower x = told(COLUMN, "person weight 50 full 55");
        due("relieve(1, 4)", x.relieve(1, 4), 30);
        due("its RING", x.person(4, 6), 1);
        due("its ON", x.person(4, 7), 1);
        due("who was ON it is ON the new one", x.person(2, 7), 16);
        due("the first one is DOWN", x.reserves(), 10);
        due("ON nobody", x.person(1, 7), 0);
        due("0 bears more", x.person(0, 8), 80);
        fails("the first one is DOWN", STATE, () -> x.relieve(1, 3));
        fails("the other one is UP", STATE, () -> x.relieve(0, 2));
        fails("both are one", ARGUMENT, () -> x.relieve(1, 1));
        fails("3 would give way", STATE, () -> x.relieve(0, 3));
        fails("no such person", INDEX, () -> x.relieve(9, 9));
        fails("no such person", INDEX, () -> x.relieve(0, 5));
        fails("no such person", INDEX, () -> x.relieve(5, 0));
        due("relieve(2, 3)", x.relieve(2, 3), 0);
        due("the lowest by the new one", x.person(0, 8), 55);
    }

    private static void leans() {
        WakeTower x = told(THREE_RINGS);
        due("lean(3, 1)", x.lean(3, 1 | 1 << 30), 2);
        due("ON", x.person(3, 7), 1);
        due("lean(4, 8)", x.lean(4, 8), 12);
        due("2 bears nothing", x.person(2, 8), 0);
        due("the same once more", x.lean(4, 8), 8);
        fails("DOWN", STATE, () -> x.lean(5, 1));
        fails("in RING 0", STATE, () -> x.lean(0, 1));
        fails("in RING 0", STATE, () -> x.lean(0, 0));
        fails("on nobody", STATE, () -> x.lean(2, 0));
        fails("on one of the same RING", STATE, () -> x.lean(2, 8));
        fails("on one DOWN", STATE, () -> x.lean(2, 33));
        fails("on those that there are not", STATE, () -> x.lean(2, 64));
        fails("no such person", INDEX, () -> x.lean(6, 1));
        WakeTower weak = told("person weight 9 full 20;person weight 9 full 19;person weight 20 full 9;"
                + "up 0 ring 0;up 1 ring 0;up 2 ring 1 on a");
        fails("1 would give way", STATE, () -> weak.lean(2, 2));
        due("both", weak.lean(2, 3), 1);
        weak.sleep(1);
        fails("it would hang", STATE, () -> weak.lean(2, 2));
    }

    private static void wakes() {
        WakeTower x = told(ARCH);
        x.sleep(1);
        due("0 bears all", x.person(0, 8), 40);
        due("wake(1)", x.wake(1), 20);
        due("nobody sleeps", x.sleepers(), 0);
        fails("not ASLEEP", STATE, () -> x.wake(1));
        fails("no such person", INDEX, () -> x.wake(3));
        WakeTower y = told("person weight 9 full 20;person weight 9 full 9;person weight 20 full 9;"
                + "up 0 ring 0;up 1 ring 0;up 2 ring 1 on ab;asleep 1");
        fails("it would give way", STATE, () -> y.wake(1));
        due("asleep yet", y.sleepers(), 2);
        WakeTower z = told("person weight 9 full 20;asleep 0");
        due("a reserve", z.wake(0), 0);
    }

    private static void falling() {
        WakeTower x = told(ARCH);
        due("sleep(0)", x.sleep(0), 40);
        due("1 bears all", x.person(1, 8), 40);
        fails("ASLEEP", STATE, () -> x.sleep(0));
        fails("2 would hang", STATE, () -> x.sleep(1));
        due("sleep(2)", x.sleep(2), 40);
        due("it stays UP", x.count(6), 7);
        fails("no such person", INDEX, () -> x.sleep(-1));
        WakeTower y = told("person weight 9 full 19;person weight 9 full 20;person weight 20 full 9;"
                + "person weight 1 full 1;up 0 ring 0;up 1 ring 0;up 2 ring 1 on ab");
        fails("0 would give way", STATE, () -> y.sleep(1));
        due("a reserve may sleep", y.sleep(3), 20);
        due("it sleeps", y.sleepers(), 8);
    }

    private static void needs() {
        WakeTower x = new WakeTower();
        due("need(8)", x.need(8), 1);
        due("need(0)", x.need(0), 8);
        fails("need(9)", ARGUMENT, () -> x.need(9));
        fails("need(-1)", ARGUMENT, () -> x.need(-1));
        due("NEED", x.count(5), 0);
        due("an act each", x.count(10), 2);
    }

    // ---- 16 to 28

    private static void totals() {
        WakeTower x = told(THREE_RINGS);
        due("total()", x.total(), 200);
        x.sleep(4);
        due("a sleeper weighs", x.total(), 200);
        x.out(4);
        due("a reserve does not", x.total(), 180);
    }

    private static void grounds() {
        WakeTower x = told(THREE_RINGS);
        due("ground()", x.ground(), 200);
        x.sleep(0);
        due("with a sleeper below", x.ground(), 200);
        x.rise(5, 0, 0);
        due("with one more", x.ground(), 270);
    }

    private static void heights() {
        WakeTower x = told(COLUMN);
        due("height()", x.height(), 3);
        x.rise(3, 3, 4);
        due("four rings", x.height(), 4);
        x.out(3);
        x.out(2);
        x.out(1);
        due("one ring", x.height(), 1);
        due("0 is the top then", underTop(x), 1);
        x.out(0);
        due("none", x.height(), 0);
        WakeTower y = told(COLUMN, "person weight 1 full 40;up 3 ring 3 on c;up 4 ring 4 on d");
        due("five rings", y.height(), 5);
    }

    private static int underTop(WakeTower x) {
        law(x, "fade 1 if top");
        return x.person(0, 9);
    }

    private static void weakests() {
        WakeTower x = told(THREE_RINGS);
        due("weakest()", x.weakest(), 4);
        x.sleep(4);
        due("a sleeper is none", x.weakest(), 2);
        WakeTower y = told(ARCH);
        due("of several the least", y.weakest(), 0);
        WakeTower z = told("person weight 1 full 9;up 0 ring 0;asleep 0");
        due("nobody holds", z.weakest(), NONE);
    }

    private static void mores() {
        WakeTower x = told(THREE_RINGS);
        due("more(3)", x.more(3), 85);
        due("99 at most", x.more(4), 99);
        due("the lowest", x.more(0), 99);
        x.sleep(3);
        due("a sleeper", x.more(3), 90);
        fails("it is DOWN", STATE, () -> x.more(5));
        fails("no such person", INDEX, () -> x.more(6));
        WakeTower y = told("person weight 1 full 10;person weight 1 full 10;person weight 19 full 9;"
                + "up 0 ring 0;up 1 ring 0;up 2 ring 1 on ab");
        due("one more is borne by 1", y.more(2), 1);
        WakeTower z = told("person weight 1 full 10;person weight 10 full 10;up 0 ring 0;up 1 ring 1 on a");
        due("none", z.more(1), 0);
        due("nothing changed", z.person(1, 0), 10);
    }

    private static void outsOfAll() {
        WakeTower x = told(THREE_RINGS);
        due("outs()", x.outs(), 29);
        WakeTower y = told(COLUMN);
        due("the top alone", y.outs(), 4);
        WakeTower z = told("person weight 9 full 20;person weight 9 full 19;person weight 20 full 9;"
                + "up 0 ring 0;up 1 ring 0;up 2 ring 1 on ab");
        due("who leaves somebody that can bear it", z.outs(), 6);
        z.sleep(1);
        due("a sleeper too", z.outs(), 6);
    }

    private static void sleepsOfAll() {
        WakeTower x = told(THREE_RINGS);
        due("sleeps()", x.sleeps(), 29);
        x.sleep(4);
        due("a sleeper can not", x.sleeps(), 13);
        WakeTower z = told("person weight 9 full 20;person weight 9 full 19;person weight 20 full 9;"
                + "up 0 ring 0;up 1 ring 0;up 2 ring 1 on ab");
        due("0 may not", z.sleeps(), 6);
    }

    /** 3 on 2, 2 on 0 and 1, but 1 cannot bear it alone: without 0 all come down in three rounds more. */
    private static WakeTower chain() {
        return told("person weight 9 full 90;person weight 9 full 30;person weight 20 full 90;person weight 20 full 90;"
                + "person weight 9 full 9;up 0 ring 0;up 1 ring 0;up 2 ring 1 on ab;up 3 ring 2 on c;up 4 ring 0");
    }

    private static void fallsOfOne() {
        WakeTower x = chain();
        due("falls(0)", x.falls(0), 4);
        due("falls(1)", x.falls(1), 1);
        due("falls(2)", x.falls(2), 2);
        due("falls(3)", x.falls(3), 1);
        due("nothing fell", x.count(6), 31);
        due("nothing is logged", x.count(9), 0);
        x.out(4);
        fails("it is DOWN", STATE, () -> x.falls(4));
        fails("no such person", INDEX, () -> x.falls(5));
    }

    private static void roundsOfOne() {
        WakeTower x = chain();
        due("rounds(0)", x.rounds(0), 3);
        due("rounds(2)", x.rounds(2), 1);
        due("rounds(3)", x.rounds(3), 0);
        x.out(4);
        fails("it is DOWN", STATE, () -> x.rounds(4));
        fails("no such person", INDEX, () -> x.rounds(-1));
    }

    private static void fallens() {
        WakeTower x = chain();
        long[] order = {0, 1, 2, 3, NONE, NONE};
        for (int k = 0; k < order.length; k++) {
            due("fallen(0, " + k + ")", x.fallen(0, k), order[k]);
        }
        due("fallen(2, 1)", x.fallen(2, 1), 3);
        due("fallen(3, 0)", x.fallen(3, 0), 3);
        due("fallen(3, 1)", x.fallen(3, 1), NONE);
        due("fallen(0, -1)", x.fallen(0, -1), NONE);
        due("fallen(0, MAX)", x.fallen(0, Integer.MAX_VALUE), NONE);
        // round by round, by numbers: 0 and 3 hang at once, though 3 is ON the one of the least number
        WakeTower y = told("person weight 1 full 50;person weight 1 full 90;person weight 1 full 50;"
                + "person weight 1 full 50;up 1 ring 0;up 3 ring 1 on b;up 0 ring 1 on b;up 2 ring 2 on d");
        due("the second", y.fallen(1, 1), 0);
        due("the third", y.fallen(1, 2), 3);
        due("the fourth", y.fallen(1, 3), 2);
        x.out(4);
        fails("it is DOWN", STATE, () -> x.fallen(4, 0));
        fails("no such person", INDEX, () -> x.fallen(5, 0));
    }

    private static void keys() {
        due("key()", chain().key(), 0);
        due("of several the least", told(ARCH).key(), 0);
        due("the lowest of a column", told(COLUMN).key(), 0);
        due("three rings", told(THREE_RINGS).key(), 1);
        due("none UP", told("person weight 1 full 1").key(), NONE);
        due("a sleeper too", told("person weight 1 full 1;up 0 ring 0;asleep 0").key(), 0);
    }

    private static void pillars() {
        due("three rings", told(THREE_RINGS).pillars(), 18);
        // what is left: nobody, 0, 0 1, 0 1 2
        due("a column", told(COLUMN).pillars(), 4);
        // left of the arch: any of 0, 1; 2 with one of them at least
        due("an arch", told(ARCH).pillars(), 7);
        due("a sleeper holds nobody", told(ARCH, "asleep 0").pillars(), 6);
    }

    private static void lefts() {
        due("three rings", told(THREE_RINGS).left(), 21);
        due("a column", told(COLUMN).left(), 7);
        due("an arch", told(ARCH).left(), 5);
        due("past a sleeper", told(ARCH, "asleep 0").left(), 6);
        due("one ring", told("person weight 1 full 1;person weight 1 full 1;up 0 ring 0;up 1 ring 0").left(), 1);
        due("nobody UP", told("person weight 1 full 1").left(), 0);
    }

    // ---- 29 to 35

    /** 1 on 0; 2 can bear 1 but not 3, and 3 is heavy; 4 is light. */
    private static WakeTower relievable() {
        return told("person weight 9 full 99;person weight 20 full 50;person weight 9 full 25;person weight 60 full 50;"
                + "person weight 5 full 10;person weight 9 full 99;up 0 ring 0;up 1 ring 1 on a;up 5 ring 0");
    }

    private static void guards() {
        WakeTower x = relievable();
        rows(x, 0, 2);
        due("one row", x.guard(0), 0);
        no("the tape is used up", x.end(1));
        rows(x, 0, 2);
        due("behind it", x.guard(1), NONE);
        rows(x, 0, 2, 1, 4);
        due("the first", x.guard(0), 0);
        rows(x, 0, 2, 1, 4);
        due("the second", x.guard(1), 1);
        // 2 and 3 together can not be, whatever the order
        rows(x, 0, 2, 1, 3);
        due("none", x.guard(0), NONE);
        // the light one first, then one who bears only it
        WakeTower y = told("person weight 9 full 99;person weight 20 full 50;person weight 9 full 6;"
                + "person weight 5 full 10;person weight 9 full 9;person weight 9 full 9;up 0 ring 0;up 1 ring 1 on a;up 4 ring 0");
        rows(y, 0, 2, 1, 3);
        due("row 1 first", y.guard(0), 1);
        rows(y, 0, 2, 1, 3);
        due("row 0 then", y.guard(1), 0);
        rows(y, 0, 2, 4, 5, 1, 3);
        due("the least first that can be", y.guard(0), 1);
        rows(y, 0, 2, 4, 5, 1, 3);
        due("then the one that must", y.guard(1), 2);
        rows(y, 0, 2, 4, 5, 1, 3);
        due("then the last", y.guard(2), 0);
        rows(y, 0, 2);
        due("not alone", y.guard(0), NONE);
        rows(y, 2, 3);
        due("who is DOWN cannot come out", y.guard(0), NONE);
        rows(y, 0, 4);
        due("who is UP cannot go in", y.guard(0), NONE);
        x.end(0);
        due("no rows", x.guard(0), NONE);
        rows(x, 0, 2);
        due("k below 0", x.guard(-1), NONE);
        due("nothing changed", x.count(6), 35);
        due("nothing to undo", x.count(10), 0);
        wrongRows(x, () -> x.guard(0));
    }

    private static void wrongRows(WakeTower x, Call call) {
        int[][] wrongs = {{0}, {0, 2, 1}, {0, 6}, {6, 0}, {0, 255}, {0, 0}, {0, 2, 0, 3}, {0, 2, 1, 2}, {0, 2, 2, 3},
            {0, 1, 2, 3, 4, 5, 6, 7, 8, 9}};
        for (int[] people : wrongs) {
            rows(x, people);
            fails("rows " + java.util.Arrays.toString(people), ARGUMENT, call);
            no("the tape is used up", x.end(1));
        }
        WakeTower nobody = new WakeTower();
        rows(nobody, 0, 1);
        fails("rows of nobody", ARGUMENT, () -> nobody.solo());
    }

    private static void solos() {
        WakeTower x = relievable();
        rows(x, 0, 2, 1, 3);
        due("both could be the first", x.solo(), 3);
        WakeTower y = told("person weight 9 full 99;person weight 20 full 50;person weight 9 full 6;"
                + "person weight 5 full 10;person weight 9 full 9;person weight 9 full 9;up 0 ring 0;up 1 ring 1 on a;up 4 ring 0");
        rows(y, 0, 2, 1, 3, 4, 5);
        due("not the first row", y.solo(), 6);
        rows(y, 2, 3);
        due("one DOWN", y.solo(), 0);
        rows(y);
        due("no rows", y.solo(), 0);
        WakeTower eight = told("person weight 1 full 9;person weight 1 full 9;person weight 1 full 9;"
                + "person weight 1 full 9;person weight 1 full 9;person weight 1 full 9;person weight 1 full 9;"
                + "person weight 1 full 9;up 0 ring 0;up 2 ring 0;up 4 ring 0;up 6 ring 0");
        rows(eight, 0, 1, 2, 3, 4, 5, 6, 7);
        due("four rows", eight.solo(), 15);
        wrongRows(x, x::solo);
    }

    private static void feels() {
        WakeTower x = told(ARCH);
        // 2 may sleep unseen; were 1 asleep, 0 would bear 40
        due("feels(0)", x.feels(0), 2);
        // not both of 0 and 1, else it hangs
        due("feels(2)", x.feels(2), 3);
        WakeTower y = told(THREE_RINGS);
        due("three rings 0", y.feels(0), 2);
        due("three rings 1", y.feels(1), 2);
        due("three rings 4", y.feels(4), 6);
        fails("DOWN", STATE, () -> y.feels(5));
        x.sleep(1);
        fails("ASLEEP", STATE, () -> x.feels(1));
        fails("no such person", INDEX, () -> x.feels(3));
        // who might give way is no matter
        WakeTower z = told("person weight 9 full 9;person weight 9 full 20;person weight 20 full 9;"
                + "up 0 ring 0;up 1 ring 0;up 2 ring 1 on b");
        due("0 asleep or not, 2 asleep or not", z.feels(1), 4);
    }

    private static void sures() {
        WakeTower x = told(ARCH);
        due("nobody", x.sure(0), 0);
        x.sleep(1);
        due("1, as 0 bears all", x.sure(0), 2);
        due("not by 2", x.sure(2), 0);
        fails("ASLEEP", STATE, () -> x.sure(1));
        fails("no such person", INDEX, () -> x.sure(-1));
    }

    private static void frees() {
        WakeTower x = told(ARCH, "person weight 1 full 1");
        due("1 holds", x.free(0), 2);
        due("by 2 none is known", x.free(2), 0);
        x.sleep(1);
        due("none by 0", x.free(0), 0);
        due("0 is, by 2: of several sets", x.free(2), 0);
        fails("DOWN", STATE, () -> x.free(3));
        fails("no such person", INDEX, () -> x.free(4));
        due("three rings", told(THREE_RINGS).free(0), 14);
        due("by the top of a column", told(COLUMN).free(2), 3);
    }

    private static void boths() {
        WakeTower x = told(ARCH);
        due("both(0, 2)", x.both(0, 2), 1);
        due("both(0, 1)", x.both(0, 1), 2);
        due("the other way", x.both(2, 0), 1);
        fails("both are one", ARGUMENT, () -> x.both(0, 0));
        fails("no such person", INDEX, () -> x.both(3, 3));
        fails("no such person", INDEX, () -> x.both(3, 0));
        fails("no such person", INDEX, () -> x.both(0, -1));
        x.sleep(1);
        fails("one is ASLEEP", STATE, () -> x.both(0, 1));
        fails("one is ASLEEP", STATE, () -> x.both(1, 0));
    }

    private static void asks() {
        WakeTower x = told(ARCH);
        // by 2: nobody, 0, or 1 sleeps: 0 would bear 20, 0, 40, 1 likewise
        due("ask(2)", x.ask(2), 0);
        // by 0: 2 sleeps or not: 1 bears 20, 2 nothing, whichever
        due("ask(0)", x.ask(0), 1);
        due("ask(1)", x.ask(1), 0);
        WakeTower y = told(THREE_RINGS);
        due("three rings 0", y.ask(0), 1);
        due("three rings 4", y.ask(4), 2);
        fails("DOWN", STATE, () -> y.ask(5));
        fails("no such person", INDEX, () -> y.ask(6));
        due("one set alone", told("person weight 1 full 1;up 0 ring 0").ask(0), NONE);
        due("nobody else holds", told("person weight 1 full 1;person weight 1 full 1;up 0 ring 0;up 1 ring 0;asleep 1")
                .ask(0), NONE);
    }

    // ---- 36 to 47

    private static void pushes() {
        WakeTower x = told(THREE_RINGS);
        due("up two rings", x.pushes(0, 4), 2);
        due("over 2 and 1", x.pushes(0, 3), 3);
        due("to itself", x.pushes(0, 0), 0);
        due("from a reserve", x.pushes(5, 5), NONE);
        due("to a reserve", x.pushes(0, 5), NONE);
        x.sleep(2);
        due("round the sleeper: none", x.pushes(0, 4), NONE);
        due("another way", x.pushes(1, 4), 2);
        due("to a sleeper", x.pushes(0, 2), NONE);
        due("a sleeper to itself", x.pushes(2, 2), NONE);
        fails("no such person", INDEX, () -> x.pushes(6, 0));
        fails("no such person", INDEX, () -> x.pushes(0, -1));
    }

    private static void tells() {
        WakeTower x = told(THREE_RINGS);
        long[] tells = {3, 2, 2, 3, 2, NONE};
        for (int i = 0; i < tells.length; i++) {
            due("tell(" + i + ")", x.tell(i), tells[i]);
        }
        x.sleep(2);
        due("0 reaches nobody", x.tell(0), NONE);
        due("0 is not reached", x.tell(1), NONE);
        due("a sleeper", x.tell(2), NONE);
        fails("no such person", INDEX, () -> x.tell(6));
        due("one alone", told("person weight 1 full 1;up 0 ring 0").tell(0), 0);
    }

    private static void heralds() {
        due("three rings", told(THREE_RINGS).herald(), 1);
        WakeTower x = told(COLUMN);
        due("the middle", x.herald(), 1);
        x.sleep(2);
        due("of several the least", x.herald(), 0);
        due("two columns", told("person weight 1 full 1;person weight 1 full 1;up 0 ring 0;up 1 ring 0").herald(), NONE);
    }

    private static void cuts() {
        WakeTower x = told(THREE_RINGS);
        due("cuts(2)", x.cuts(2), 3);
        due("cuts(1)", x.cuts(1), 0);
        due("a reserve", x.cuts(5), 0);
        x.sleep(0);
        due("nobody left to cut off", x.cuts(2), 0);
        due("a sleeper", x.cuts(0), 0);
        WakeTower y = told(COLUMN);
        due("the middle", y.cuts(1), 1);
        due("the top", y.cuts(2), 0);
        fails("no such person", INDEX, () -> y.cuts(4));
        // a keystone with four around it, and a column beside
        WakeTower z = told("person weight 1 full 99;person weight 1 full 99;person weight 1 full 99;"
                + "person weight 1 full 99;person weight 1 full 99;person weight 1 full 99;"
                + "up 0 ring 0;up 1 ring 0;up 2 ring 1 on ab;up 3 ring 2 on c;up 4 ring 2 on c;up 5 ring 0");
        due("a keystone", z.cuts(2), 6);
    }

    private static void rosters() {
        WakeTower x = told("person weight 1 full 100;person weight 1 full 150;person weight 1 full 90;up 0 ring 0");
        due("two hours of 100", x.roster(2, 100, NONE), 2);
        due("the first hour", x.roster(2, 100, 0), 1);
        due("the second hour", x.roster(2, 100, 1), 2);
        due("three hours", x.roster(3, 100, NONE), 3);
        due("again the first", x.roster(3, 100, 2), 1);
        due("one hour of 200", x.roster(1, 200, NONE), 2);
        due("the least set", x.roster(1, 200, 0), 3);
        due("two hours of 200", x.roster(2, 200, NONE), NONE);
        due("two hours of 200", x.roster(2, 200, 0), NONE);
        due("all", x.roster(1, 340, 0), 7);
        due("more than all", x.roster(1, 341, NONE), NONE);
        due("far more than all", x.roster(1, 999, NONE), NONE);
        due("of nothing", x.roster(12, 0, NONE), 0);
        due("nobody stands", x.roster(12, 0, 11), 0);
        due("no such hour", x.roster(12, 0, 12), NONE);
        due("no such hour", x.roster(2, 100, -2), NONE);
        due("twelve hours", x.roster(12, 150, NONE), 18);
        due("by turns", x.roster(12, 150, 0) * 100 + x.roster(12, 150, 11), 205);
        fails("N 0", ARGUMENT, () -> x.roster(0, 100, 0));
        fails("N 13", ARGUMENT, () -> x.roster(13, 100, 0));
        fails("X -1", ARGUMENT, () -> x.roster(1, -1, 0));
        fails("X 1000", ARGUMENT, () -> x.roster(1, 1000, 0));
    }

    private static void pairs() {
        WakeTower x = told("person weight 1 full 100;person weight 1 full 150;person weight 1 full 90;up 0 ring 0");
        due("pairs(190)", x.pairs(190), 3);
        due("pairs(191)", x.pairs(191), 2);
        due("pairs(250)", x.pairs(250), 1);
        due("pairs(999)", x.pairs(999), 0);
        due("pairs(0)", x.pairs(0), 3);
        fails("pairs(-1)", ARGUMENT, () -> x.pairs(-1));
        fails("pairs(1000)", ARGUMENT, () -> x.pairs(1000));
    }

    private static void dearests() {
        due("none is more than all", told("person weight 1 full 60;person weight 1 full 60;person weight 1 full 120;"
                + "person weight 1 full 50").dearest(), 2);
        due("three places", told("person weight 1 full 50;person weight 1 full 50;person weight 1 full 100;"
                + "person weight 1 full 100;person weight 1 full 50").dearest(), 2);
        due("of several the least", told("person weight 1 full 100;person weight 1 full 150;person weight 1 full 90")
                .dearest(), 0);
        due("all alike", told("person weight 1 full 999;person weight 1 full 999;person weight 1 full 999").dearest(), 0);
        due("one", told("person weight 1 full 5").dearest(), 0);
    }

    private static void rests() {
        WakeTower x = told(ARCH, "person weight 1 full 1");
        // the first wakes when the other grumbles, the other is still then, the first sleeps then, the other grumbles
        due("rests(2, 0)", x.rests(2, 0), 0);
        due("rests(2, 1)", x.rests(2, 1), 0);
        fails("0 is not ON 2", STATE, () -> x.rests(0, 2));
        fails("not ON itself", STATE, () -> x.rests(2, 2));
        fails("one is DOWN", STATE, () -> x.rests(3, 0));
        fails("one is DOWN", STATE, () -> x.rests(2, 3));
        fails("no such person", INDEX, () -> x.rests(4, 0));
        fails("no such person", INDEX, () -> x.rests(0, 4));
        x.sleep(1);
        fails("the other one sleeps", STATE, () -> x.rests(2, 1));
        x.wake(1);
        x.sleep(2);
        fails("the first one sleeps", STATE, () -> x.rests(2, 0));
    }

    private static void odds() {
        WakeTower x = underLaw("drowse 33", ARCH);
        long[] odds = {10000, 6700, 4489, 3007, 2014};
        for (int n = 0; n <= 4; n++) {
            due("odds(0, " + n + ")", x.odds(0, n), odds[n]);
        }
        fails("N 5", ARGUMENT, () -> x.odds(0, 5));
        fails("N -1", ARGUMENT, () -> x.odds(0, -1));
        fails("no such person", INDEX, () -> x.odds(3, 9));
        WakeTower y = underLaw("drowse 80;drowse 80", ARCH);
        due("100 at most", y.odds(0, 1), 0);
        due("no hour", y.odds(0, 0), 10000);
        WakeTower z = told(COLUMN);
        z.hours(7);
        due("HOURS awake without a law", z.odds(0, 1), 9300);
        due("a reserve is not awake", z.odds(3, 4), 10000);
    }

    private static void alones() {
        WakeTower x = told(THREE_RINGS);
        due("alone()", x.alone(), 8);
        x.sleep(2);
        due("past a sleeper", x.alone(), 24);
        due("a column", told(COLUMN).alone(), 6);
        due("a sleeper may be held so", told(COLUMN, "asleep 2").alone(), 6);
        due("the least number too", told("person weight 1 full 9;person weight 1 full 9;up 1 ring 0;up 0 ring 1 on b")
                .alone(), 1);
    }

    private static void tireds() {
        WakeTower x = underLaw("", COLUMN);
        due("nobody yet", x.tired(), NONE);
        x.sleep(2);
        x.hours(2);
        due("of several the least", x.tired(), 0);
        x.sleep(3);
        x.wake(2);
        x.rise(3, 0, 0);
        x.hours(1);
        due("the longest awake", x.tired(), 0);
        WakeTower y = underLaw("", "person weight 1 full 9;person weight 1 full 9;up 1 ring 0");
        y.hours(1);
        due("who is UP", y.tired(), 1);
    }

    private static void twins() {
        due("twins()", told("person weight 1 full 9;person weight 1 full 9;person weight 2 full 9;"
                + "person weight 1 full 8;person weight 1 full 9;up 0 ring 0").twins(), 3);
        due("none", told("person weight 1 full 9;person weight 9 full 1").twins(), 0);
        due("not by WEIGHT alone", told("person weight 1 full 9;person weight 1 full 8").twins(), 0);
        due("not by FULL alone", told("person weight 1 full 9;person weight 2 full 9").twins(), 0);
    }

    // ---- 48 to 61

    private static void rings() {
        WakeTower x = told(THREE_RINGS);
        long[] rings = {3, 12, 16, 0, 0};
        for (int i = 0; i < rings.length; i++) {
            due("ring(" + i + ")", x.ring(i), rings[i]);
        }
        fails("ring(5)", INDEX, () -> x.ring(5));
        fails("ring(-1)", INDEX, () -> x.ring(-1));
    }

    private static void reserves() {
        WakeTower x = told(THREE_RINGS);
        due("reserves()", x.reserves(), 32);
        x.out(4);
        due("one more", x.reserves(), 48);
    }

    private static void sleepers() {
        WakeTower x = told(THREE_RINGS);
        due("none", x.sleepers(), 0);
        x.sleep(4);
        x.sleep(5);
        due("a reserve too", x.sleepers(), 48);
    }

    private static void soons() {
        WakeTower x = told(FRAIL);
        due("soon()", x.soon(), 1);
        x.need(3);
        due("now", x.soon(), 0);
        x.need(0);
        due("never", x.soon(), NONE);
        WakeTower y = underLaw("fade 1", "person weight 1 full 99;person weight 60 full 9;person weight 1 full 9;"
                + "up 0 ring 0;up 1 ring 1 on a;up 2 ring 0;need 3");
        due("when 99 fade below 60", y.soon(), 40);
        y.need(1);
        due("one stays", y.soon(), NONE);
        WakeTower z = underLaw("fade 1", "person weight 1 full 99;person weight 40 full 9;up 0 ring 0;"
                + "up 1 ring 1 on a;need 2");
        due("at 60", z.soon(), 60);
        WakeTower never = underLaw("fade 1", "person weight 1 full 99;person weight 39 full 9;up 0 ring 0;"
                + "up 1 ring 1 on a;need 2");
        due("at 61: none", never.soon(), NONE);
        WakeTower drowsy = underLaw("drowse 100", "person weight 1 full 99;person weight 9 full 9;up 0 ring 0;"
                + "up 1 ring 1 on a;need 2");
        due("without draws", drowsy.soon(), NONE);
    }

    private static void aheads() {
        WakeTower x = told(FRAIL);
        due("ahead(0, 0)", x.ahead(0, 0), 30);
        due("ahead(0, 1)", x.ahead(0, 1), 25);
        due("it falls, and mends", x.ahead(0, 2), 30);
        due("the other one", x.ahead(1, 1), 45);
        due("nothing stays", x.count(6) + x.count(9), 3);
        due("SEED stays", x.seed(1), 1);
        fails("N -1", ARGUMENT, () -> x.ahead(0, -1));
        fails("N 61", ARGUMENT, () -> x.ahead(0, 61));
        fails("no such person", INDEX, () -> x.ahead(2, 61));
        WakeTower y = underLaw("fade 1;drowse 100;mend 5 if asleep", "person weight 1 full 99;up 0 ring 0");
        due("nobody falls asleep", y.ahead(0, 60), 39);
    }

    private static void trials() {
        WakeTower x = underLaw("drowse 39", "person weight 9 full 99;person weight 9 full 99;person weight 9 full 99;"
                + "person weight 9 full 99;up 0 ring 0;up 1 ring 0;up 3 ring 0");
        due("who sleeps behind an hour", x.trial(1, true), 9);
        due("who is UP", x.trial(1, false), 11);
        due("the same once more", x.trial(1, true), 9);
        due("now", x.trial(0, true), 0);
        due("behind two", x.trial(2, true), 11);
        due("nothing stays", x.sleepers() + x.count(3) + x.count(10), 0);
        fails("N -1", ARGUMENT, () -> x.trial(-1, true));
        fails("N 61", ARGUMENT, () -> x.trial(61, false));
        due("they fall", told(FRAIL).trial(1, false), 0);
    }

    private static void spans() {
        // from SEED 1 the first draw is 38, from SEED 3 it is 47: 1 hangs, or it does not
        WakeTower x = underLaw("drowse 40 if person < 1", "person weight 9 full 99;person weight 9 full 99;"
                + "up 0 ring 0;up 1 ring 1 on a");
        x.seed(77);
        due("the least", x.span(1, false), 1);
        due("the greatest", x.span(1, true), 2);
        due("now", x.span(0, false) * 10 + x.span(0, true), 22);
        everySeed();
        due("SEED stays", x.seed(1), 77);
        due("nothing stays", x.count(6), 3);
        fails("N -1", ARGUMENT, () -> x.span(-1, true));
        fails("N 61", ARGUMENT, () -> x.span(61, true));
    }

    /** Who sleeps behind an hour from each SEED; who is on it hangs then. */
    private static void everySeed() {
        // the first draws from SEED 1 to 7, modulo 100
        int[] draws = {38, 8, 47, 17, 55, 26, 64};
        WakeTower x = told("person weight 9 full 99;person weight 9 full 99;up 0 ring 0;up 1 ring 1 on a");
        for (int i = 0; i < draws.length; i++) {
            x.seed(i + 1);
            law(x, "drowse " + draws[i] + " if person < 1");
            due("the draw from " + (i + 1) + " is not below " + draws[i], x.trial(1, false), 3);
            law(x, "drowse " + (draws[i] + 1) + " if person < 1");
            due("the draw from " + (i + 1) + " is below " + (draws[i] + 1), x.trial(1, false), 1);
        }
        law(x, "drowse 55 if person < 1");
        due("from SEED 5 alone both stay UP", x.span(1, true), 2);
        law(x, "drowse 56 if person < 1");
        due("from none both stay UP", x.span(1, true), 1);
        law(x, "drowse 8 if person < 1");
        due("from all both stay UP", x.span(1, false), 2);
        law(x, "drowse 9 if person < 1");
        due("from SEED 2 one falls", x.span(1, false), 1);
        String four = "person weight 9 full 99;person weight 9 full 99;person weight 9 full 99;person weight 9 full 99;"
                + "up 0 ring 0;up 1 ring 0;up 2 ring 0;up 3 ring 1 on ";
        // the third draws: 13, 39, 65, 91, 16, 42
        WakeTower first = underLaw("drowse 14 if person > 1 and person < 3", four + "c");
        due("from SEED 1 alone one falls", first.span(1, false), 3);
        // the ninth draws: 12, 2, 92, 82, 72, 95
        WakeTower last = underLaw("drowse 93 if hour > 1 and person < 1", four + "a");
        due("from SEED 6 alone all stay UP", last.span(3, true), 4);
    }

    private static void leds() {
        WakeTower x = told(FRAIL, "person weight 9 full 9");
        due("no rows", x.led(0, false), 0);
        due("no day", x.led(0, true), NONE);
        x.hours(1);
        due("a row", x.led(0, false), 1);
        due("its day", x.led(0, true), 7);
        due("a row of the other", x.led(1, false), 1);
        due("none of a reserve", x.led(2, false), 0);
        x.hours(60);
        x.rise(0, 0, 0);
        x.rise(1, 1, 1);
        // 30 - 5 is less than 28: they fall again, three days on
        x.hours(1);
        due("two rows", x.led(0, false), 2);
        due("the latest day", x.led(0, true), 9);
        due("the latest day of the one who fell last", x.led(1, true), 9);
        WakeTower y = underLaw("drowse 100 if person < 1", "person weight 9 full 99;person weight 9 full 99;"
                + "person weight 9 full 99;up 0 ring 0;up 1 ring 1 on a;up 2 ring 1 on a;hour 23;day 4");
        y.hours(1);
        y.wake(0);
        y.rise(2, 1, 1);
        y.hours(1);
        due("the day of one who fell ahead", y.led(1, true), 4);
        due("the day of one who fell again", y.led(2, true), 5);
        due("none of one who never fell", y.led(0, true), NONE);
        fails("no such person", INDEX, () -> x.led(3, true));
    }

    private static void logs() {
        WakeTower x = told(FRAIL);
        due("none", x.log(0, 0), NONE);
        x.hours(1);
        long[][] rows = {{7, 5, 1, 2, 1, 0}, {7, 5, 0, 1, 0, 28}};
        for (int ago = 0; ago < 2; ago++) {
            for (int what = 0; what < 6; what++) {
                due("log(" + ago + ", " + what + ")", x.log(ago, what), rows[ago][what]);
            }
        }
        due("rows", x.count(9), 2);
        due("none so long ago", x.log(2, 0), NONE);
        due("none to come", x.log(-1, 0), NONE);
        fails("what 6", ELEMENT, () -> x.log(0, 6));
        fails("what -1", ELEMENT, () -> x.log(0, -1));
        fails("what 6 of no row", ELEMENT, () -> x.log(99, 6));
        // gives way and hangs at once: that is giving way
        WakeTower both = underLaw("fade 100 if ring > 0;drowse 100 if person < 1", "person weight 9 full 99;"
                + "person weight 9 full 99;person weight 9 full 9;up 0 ring 0;up 1 ring 1 on a;up 2 ring 2 on b;hour 23");
        due("both fall", both.hours(1), 2);
        due("the hour ahead of its being more", both.log(1, 1), 23);
        due("the day ahead of its being more", both.log(1, 0), 0);
        due("1 gave way", both.log(1, 4), 0);
        due("1 bore", both.log(1, 5), 9);
        due("2 hung alone", both.log(0, 4), 1);
        due("in the second round", both.log(0, 3), 2);
        sixtyRows();
    }

    private static void sixtyRows() {
        WakeTower x = underLaw("drowse 100 if person < 1", "person weight 9 full 99;person weight 9 full 99;up 0 ring 0");
        for (int i = 0; i < 61; i++) {
            x.rise(1, 1, 1);
            x.hours(1);
            x.wake(0);
        }
        due("60 at most", x.count(9), 60);
        due("rows of 1", x.led(1, false), 60);
        due("the latest", x.log(0, 0) * 100 + x.log(0, 1), 212);
        due("the oldest is the second", x.log(59, 0) * 100 + x.log(59, 1), 1);
        due("none behind", x.log(60, 1), NONE);
        x.image();
        x.rise(1, 1, 1);
        x.hours(1);
        due("the oldest is the third", x.log(59, 1), 2);
        x.undo();
        due("undone: the oldest is the second", x.log(59, 1), 1);
        x.hours(1);
        x.back();
        due("gone back: the oldest is the second", x.log(59, 1), 1);
    }

    private static void seeds() {
        WakeTower x = underLaw("drowse 100", "person weight 9 full 99;up 0 ring 0");
        due("SEED at first", x.seed(-5), 1);
        due("SEED", x.seed(1), -5);
        due("no act", x.count(10), 0);
        x.hours(1);
        due("behind a draw", x.seed(0), 1103527590);
        x.hours(1);
        due("a sleeper draws not", x.seed(0), 0);
        x.wake(0);
        x.hours(1);
        due("from 0", x.seed(9), 12345);
    }

    private static void undoes() {
        WakeTower x = told(COLUMN);
        no("none", x.undo());
        for (int i = 0; i < 13; i++) {
            x.need(i % 9);
        }
        due("12 are remembered", x.count(10), 12);
        for (int i = 11; i >= 0; i--) {
            yes("undo()", x.undo());
            due("NEED", x.count(5), i % 9);
            due("left to undo", x.count(10), i);
        }
        no("no more", x.undo());
        x.seed(5);
        x.hours(7);
        x.seed(6);
        yes("hours are one", x.undo());
        due("SEED is as ahead", x.seed(5), 5);
        due("HOUR", x.count(3), 0);
        due("STRENGTH", x.person(0, 2), 100);
        WakeTower frail = told(FRAIL);
        frail.hours(1);
        frail.undo();
        due("the log is as ahead", frail.count(9), 0);
        due("they stand", frail.count(6), 3);
        due("they bear", frail.count(7), 28);
        due("HOURS awake are as ahead", frail.person(0, 4), 0);
        twoLogs();
        actsUndone(x);
        undoAndTexts();
    }

    /** Rows that are undone make room for others. */
    private static void twoLogs() {
        WakeTower x = told(FRAIL);
        x.hours(2);
        x.rise(0, 0, 0);
        x.rise(1, 1, 1);
        x.image();
        x.hours(2);
        due("four rows", x.count(9), 4);
        due("the hour", x.log(0, 1), 7);
        x.back();
        due("two rows", x.count(9), 2);
        due("the hour of the latest", x.log(0, 1), 5);
        x.need(1);
        x.hours(3);
        due("four rows again", x.count(9), 4);
        due("who", x.log(3, 2) * 1000 + x.log(2, 2) * 100 + x.log(1, 2) * 10 + x.log(0, 2), 101);
        x.undo();
        due("two rows", x.count(9), 2);
        due("the oldest", x.log(1, 2) * 10 + x.log(1, 1), 5);
        due("the latest", x.log(0, 2) * 10 + x.log(0, 1), 15);
    }

    private static void actsUndone(WakeTower x) {
        x.sleep(2);
        x.out(2);
        x.rise(3, 0, 0);
        x.undo();
        x.wake(2);
        x.rise(2, 2, 2);
        x.lean(2, 2);
        x.undo();
        x.relieve(2, 3);
        due("acts", x.count(10), 5);
        x.undo();
        due("2 is UP", x.count(6), 7);
        x.undo();
        due("2 is DOWN, awake", x.count(6) * 10 + x.sleepers(), 30);
        x.undo();
        due("2 is DOWN, asleep", x.count(6) * 10 + x.sleepers(), 34);
        x.undo();
        due("2 is UP, asleep", x.count(6) * 10 + x.sleepers(), 74);
        x.undo();
        due("2 is awake", x.sleepers(), 0);
        no("no more", x.undo());
    }

    private static void undoAndTexts() {
        WakeTower x = told(COLUMN);
        x.need(2);
        wrongTower(x, "need", 4);
        due("a wrong text leaves them", x.count(10), 1);
        fails("an act that cannot be", STATE, () -> x.out(0));
        due("leaves them", x.count(10), 1);
        feed(x, "day 3");
        yes("undo()", x.undo());
        due("fault() stays", x.fault(), 4);
        yes("the tape stays", x.end(5));
        x.need(2);
        x.tower();
        due("a text of the tower", x.count(10), 0);
        no("none", x.undo());
        x.need(3);
        law(x, "fade 1");
        due("a law", x.count(10), 0);
        x.need(4);
        x.image();
        x.undo();
        yes("the image stays", x.back());
        due("NEED of it", x.count(5), 4);
        due("going back", x.count(10), 0);
    }

    private static void images() {
        WakeTower x = told(COLUMN);
        x.image();
        x.need(5);
        x.image();
        x.need(6);
        due("an image is no act", x.count(10), 2);
        x.back();
        due("the latest image", x.count(5), 5);
    }

    private static void backs() {
        WakeTower x = told(COLUMN);
        no("none was kept", x.back());
        due("nothing happens", x.count(0), 4);
        law(x, "fade 3");
        x.seed(42);
        x.hours(2);
        x.image();
        law(x, "fade 4;fade 5");
        feed(x, "person weight 1 full 1;day 5");
        x.tower();
        x.hours(3);
        x.out(2);
        x.seed(1);
        wrongTower(x, "need", 4);
        feed(x, "need 5");
        yes("back()", x.back());
        due("texts", x.count(1), 1);
        due("PEOPLE", x.count(0), 4);
        due("LINES", x.count(2), 1);
        due("FADES", x.person(0, 9), 3);
        due("HOUR", x.count(3), 2);
        due("DAY", x.count(4), 0);
        due("UP", x.count(6), 7);
        due("STRENGTH", x.person(0, 2), 94);
        due("none can be undone", x.count(10), 0);
        due("fault() stays", x.fault(), 4);
        yes("the tape stays", x.end(6));
        x.out(2);
        yes("once more", x.back());
        due("UP again", x.count(6), 7);
        WakeTower untold = told(COLUMN);
        untold.image();
        law(untold, "");
        untold.back();
        due("without a law again", untold.count(2), NONE);
    }

    private static void counts() {
        WakeTower x = told(THREE_RINGS, "");
        long[] counts = {6, 2, NONE, 22, 3, 4, 31, 110, 900, 0, 0, NONE};
        for (int i = 0; i < counts.length; i++) {
            due("count(" + i + ")", x.count(i), counts[i]);
        }
        due("count(-1)", x.count(-1), NONE);
        law(x, "fade 1;fade 2");
        x.need(3);
        due("LINES", x.count(2), 2);
        due("acts", x.count(10), 1);
        WakeTower y = told(FRAIL);
        y.hours(1);
        due("rows", y.count(9), 2);
    }
}
