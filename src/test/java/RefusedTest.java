import java.util.ArrayList;
import java.util.List;

/**
 * A call that throws changes nothing but the TAPE, where it is used up: behind it the tower answers all that its
 * twin answers, of which it was not asked. So does one that has only been asked.
 */
public final class RefusedTest extends Checks {
    private static final int FAULT = 4;
    private static final String TAPE = "need 7";
    private static final int MAX = Integer.MAX_VALUE;
    private static final int MIN = Integer.MIN_VALUE;

    interface Ask {
        void of(WakeTower x);
    }

    interface Question {
        int of(WakeTower x);
    }

    public static void main(String[] args) {
        run("promises 4 and 5: texts", RefusedTest::texts);
        run("promise 4: there are 12", RefusedTest::twelve);
        run("promise 7", RefusedTest::persons);
        run("promise 8", RefusedTest::hours);
        run("promise 9", RefusedTest::rises);
        run("promise 10", RefusedTest::outs);
        run("promise 11", RefusedTest::reliefs);
        run("promise 12", RefusedTest::leans);
        run("promise 13", RefusedTest::wakes);
        run("promise 14", RefusedTest::sleeps);
        run("promise 15", RefusedTest::needs);
        run("promises 20 to 25", RefusedTest::ofOneUp);
        run("promises 29 and 30: rows", RefusedTest::rowsTold);
        run("promises 31 to 35", RefusedTest::ofOneThatHolds);
        run("promises 36 to 39", RefusedTest::ofTouch);
        run("promises 40 to 44", RefusedTest::ofNumbers);
        run("promises 48 to 56", RefusedTest::ofHours);
        run("questions", RefusedTest::questions);
        end("RefusedTest");
    }

    /**
     * 2 ON 0 and 1, of whom 1 sleeps; 3 ON 2; 4 fell; 5 is a reserve that sleeps. Three acts can be undone, an image is
     * kept, a text was wrong, and the next one is fed.
     */
    private static WakeTower rich(int texts) {
        WakeTower x = told("person weight 9 full 60;person weight 20 full 45;person weight 40 full 80;"
                + "person weight 5 full 50;person weight 30 full 10;person weight 9 full 99;up 0 ring 0;up 1 ring 0;"
                + "up 2 ring 1 on ab;up 3 ring 2 on c;up 5 ring 0;up 4 ring 1 on f;hour 22;day 8");
        law(x, "drowse 100 if person > 4");
        for (int i = x.count(1); i < texts; i++) {
            tower(x, "");
        }
        due("4 falls", x.hours(1), 1);
        x.out(5);
        law(x, "fade 1;mend 2 if down");
        x.need(3);
        x.hours(2);
        x.seed(77);
        x.image();
        x.sleep(1);
        wrongTower(x, "need", FAULT);
        feed(x, TAPE);
        return x;
    }

    private static String outcome(Call call) {
        try {
            call.of();
            return "answers";
        } catch (RuntimeException e) {
            return e.getClass().getSimpleName();
        }
    }

    private static void brief(WakeTower x, StringBuilder all) {
        for (int what = 0; what <= 10; what++) {
            all.append(" count ").append(what).append(' ').append(x.count(what));
        }
        for (int person = 0; person < x.count(0); person++) {
            for (int what : new int[] {2, 3, 4, 6, 7}) {
                all.append(' ').append(person).append('.').append(what).append(' ').append(x.person(person, what));
            }
        }
        int seed = x.seed(0);
        all.append(" seed ").append(seed);
        x.seed(seed);
    }

    /** All that the tower answers, then what it is ahead of each act, of the image, and what the tape has. */
    private static String portrait(WakeTower x, int tape) {
        StringBuilder all = new StringBuilder();
        brief(x, all);
        for (int person = 0; person < x.count(0); person++) {
            for (int what = 0; what < 14; what++) {
                all.append(' ').append(person).append('.').append(what).append(' ').append(x.person(person, what));
            }
        }
        for (int what = 0; what < 6; what++) {
            all.append(" log ").append(x.log(0, what)).append(' ').append(x.log(1, what));
        }
        while (x.undo()) {
            all.append("; undone:");
            brief(x, all);
        }
        all.append("; back ").append(x.back());
        brief(x, all);
        all.append("; tape ").append(x.end(tape + 1)).append(x.end(tape));
        all.append(outcome(x::tower)).append(x.count(5));
        return all.toString();
    }

    private static void same(String what, WakeTower x, WakeTower twin, int tape) {
        String got = portrait(x, tape);
        String want = portrait(twin, tape);
        checks++;
        if (!got.equals(want)) {
            wrong++;
            System.out.println(about + ": behind " + what + " it is\n    " + got + "\n    and not\n    " + want);
        }
    }

    private static void refused(String what, Class<?> want, Ask call) {
        WakeTower x = rich(1);
        fails(what, want, () -> call.of(x));
        due("fault() behind " + what, x.fault(), FAULT);
        same(what, x, rich(1), TAPE.length());
    }

    private static void refusedText(String text, int texts, Class<?> want, Ask call, int fault) {
        WakeTower x = rich(texts);
        feed(x, text);
        fails("the text " + text, want, () -> call.of(x));
        due("fault() of " + text, x.fault(), fault);
        WakeTower twin = rich(texts);
        twin.end(0);
        same("the text " + text, x, twin, 0);
    }

    private static void refusedRows(int... people) {
        StringBuilder text = new StringBuilder();
        for (int p : people) {
            text.append((char) p);
        }
        refusedText(text.toString(), 1, ARGUMENT, x -> x.guard(0), FAULT);
        refusedText(text.toString(), 1, ARGUMENT, WakeTower::solo, FAULT);
    }

    private static void texts() {
        refusedText("need 7;", 1, ARGUMENT, WakeTower::tower, 7);
        refusedText("person weight 1 full 9;up 6 ring 0;up 4 ring 0;asleep 0;hour 5;day 6;need 7;x", 1, ARGUMENT,
                WakeTower::tower, 76);
        refusedText("need 7;up 4 ring 1 on a", 1, ARGUMENT, WakeTower::tower, 23);
        refusedText("need 7;asleep 0", 1, ARGUMENT, WakeTower::tower, 15);
        refusedText("need 7;asleep 1", 1, ARGUMENT, WakeTower::tower, 14);
        refusedText("need 7;need 7", 1, ARGUMENT, WakeTower::law, 0);
        refusedText("fade 100;mend 100;drowse 100;fade 101", 1, ARGUMENT, WakeTower::law, 34);
        refusedText("fade 100;mend 100;drowse 100 if top and", 1, ARGUMENT, WakeTower::law, 39);
        refusedText("drowse 100 if (not asleep", 1, ARGUMENT, WakeTower::law, 25);
    }

    private static void twelve() {
        refusedText("need 7", 12, UNSUPPORTED, WakeTower::tower, NONE);
        refusedText("", 12, UNSUPPORTED, WakeTower::tower, NONE);
        refusedText("person weight 9 full 9;up 4 ring 0;hour 5;day 5", 12, UNSUPPORTED, WakeTower::tower, NONE);
        refusedText("need 9", 12, ARGUMENT, WakeTower::tower, 5);
    }

    private static void persons() {
        for (int what : new int[] {-1, 14, MIN, MAX}) {
            refused("person(5, " + what + ")", ELEMENT, x -> x.person(5, what));
        }
        for (int person : new int[] {-1, 6, 8, MIN, MAX}) {
            refused("person(" + person + ", 0)", INDEX, x -> x.person(person, 0));
            refused("person(" + person + ", 14)", INDEX, x -> x.person(person, 14));
        }
    }

    private static void hours() {
        for (int n : new int[] {0, -1, 61, MIN, MAX}) {
            refused("hours(" + n + ")", ARGUMENT, x -> x.hours(n));
        }
    }

    private static void rises() {
        refused("no such person", INDEX, x -> x.rise(6, 0, 0));
        refused("no such person", INDEX, x -> x.rise(-1, 0, 0));
        refused("no such RING", INDEX, x -> x.rise(4, 5, 0));
        refused("no such RING", INDEX, x -> x.rise(4, -1, 0));
        refused("it is UP", STATE, x -> x.rise(0, 0, 0));
        refused("in RING 0 on somebody", STATE, x -> x.rise(4, 0, 1));
        refused("in RING 1 on nobody", STATE, x -> x.rise(4, 1, 0));
        refused("on one that is DOWN", STATE, x -> x.rise(4, 1, 33));
        refused("too heavy", STATE, x -> x.rise(4, 1, 1));
        refused("it would hang on the sleeper", STATE, x -> x.rise(4, 1, 2));
    }

    private static void outs() {
        refused("no such person", INDEX, x -> x.out(6));
        refused("no such person", INDEX, x -> x.out(-1));
        refused("DOWN", STATE, x -> x.out(4));
        refused("2 would hang on the sleeper", STATE, x -> x.out(0));
        refused("3 would hang", STATE, x -> x.out(2));
    }

    private static void reliefs() {
        refused("no such person", INDEX, x -> x.relieve(6, 6));
        refused("no such person", INDEX, x -> x.relieve(0, 6));
        refused("no such person", INDEX, x -> x.relieve(-1, 4));
        refused("both are one", ARGUMENT, x -> x.relieve(0, 0));
        refused("both are one", ARGUMENT, x -> x.relieve(4, 4));
        refused("the first one is DOWN", STATE, x -> x.relieve(4, 5));
        refused("the other one is UP", STATE, x -> x.relieve(3, 1));
        refused("the new one is too weak", STATE, x -> x.relieve(0, 4));
        refused("the new one sleeps", STATE, x -> x.relieve(2, 5));
        refused("the new one is too heavy", STATE, x -> x.relieve(3, 4));
    }

    private static void leans() {
        refused("no such person", INDEX, x -> x.lean(6, 1));
        refused("no such person", INDEX, x -> x.lean(MIN, 1));
        refused("DOWN", STATE, x -> x.lean(4, 1));
        refused("in RING 0", STATE, x -> x.lean(0, 0));
        refused("on nobody", STATE, x -> x.lean(2, 64));
        refused("on one that is DOWN", STATE, x -> x.lean(2, 32));
        refused("on one above", STATE, x -> x.lean(2, 8));
        refused("it would hang on the sleeper", STATE, x -> x.lean(2, 2));
    }

    private static void wakes() {
        refused("no such person", INDEX, x -> x.wake(6));
        refused("no such person", INDEX, x -> x.wake(-1));
        refused("awake", STATE, x -> x.wake(0));
        refused("awake and DOWN", STATE, x -> x.wake(4));
        // 1 is weak behind hours of fading, so that it cannot be woken
        WakeTower x = weak();
        fails("it would give way", STATE, () -> x.wake(1));
        same("wake(1)", x, weak(), 0);
    }

    private static WakeTower weak() {
        WakeTower x = told("person weight 9 full 60;person weight 20 full 22;person weight 40 full 80;up 0 ring 0;"
                + "up 1 ring 0;up 2 ring 1 on ab;asleep 1");
        law(x, "fade 1");
        x.need(2);
        x.hours(3);
        x.image();
        return x;
    }

    private static void sleeps() {
        refused("no such person", INDEX, x -> x.sleep(6));
        refused("no such person", INDEX, x -> x.sleep(-1));
        refused("ASLEEP", STATE, x -> x.sleep(1));
        refused("ASLEEP and DOWN", STATE, x -> x.sleep(5));
        refused("2 would hang", STATE, x -> x.sleep(0));
    }

    private static void needs() {
        for (int n : new int[] {-1, 9, MIN, MAX}) {
            refused("need(" + n + ")", ARGUMENT, x -> x.need(n));
        }
    }

    private static void ofOneUp() {
        for (int person : new int[] {-1, 6, MIN, MAX}) {
            refused("more(" + person + ")", INDEX, x -> x.more(person));
            refused("falls(" + person + ")", INDEX, x -> x.falls(person));
            refused("rounds(" + person + ")", INDEX, x -> x.rounds(person));
            refused("fallen(" + person + ", 0)", INDEX, x -> x.fallen(person, 0));
        }
        for (int person = 4; person < 6; person++) {
            int down = person;
            refused("more of one DOWN", STATE, x -> x.more(down));
            refused("falls of one DOWN", STATE, x -> x.falls(down));
            refused("rounds of one DOWN", STATE, x -> x.rounds(down));
            refused("fallen of one DOWN", STATE, x -> x.fallen(down, 0));
        }
    }

    private static void rowsTold() {
        refusedRows(0);
        refusedRows(0, 4, 1);
        refusedRows(0, 6);
        refusedRows(6, 0);
        refusedRows(0, 255);
        refusedRows(0, 0);
        refusedRows(0, 4, 1, 4);
        refusedRows(0, 4, 4, 5);
        refusedRows(0, 1, 2, 3, 4, 5, 0, 1, 2, 3);
    }

    private static void ofOneThatHolds() {
        for (int person : new int[] {-1, 6, MIN, MAX}) {
            refused("feels(" + person + ")", INDEX, x -> x.feels(person));
            refused("sure(" + person + ")", INDEX, x -> x.sure(person));
            refused("free(" + person + ")", INDEX, x -> x.free(person));
            refused("ask(" + person + ")", INDEX, x -> x.ask(person));
            refused("both(" + person + ", 0)", INDEX, x -> x.both(person, 0));
            refused("both(0, " + person + ")", INDEX, x -> x.both(0, person));
        }
        // one that sleeps, one that is DOWN, one that is both
        for (int person : new int[] {1, 4, 5}) {
            refused("feels(" + person + ")", STATE, x -> x.feels(person));
            refused("sure(" + person + ")", STATE, x -> x.sure(person));
            refused("free(" + person + ")", STATE, x -> x.free(person));
            refused("ask(" + person + ")", STATE, x -> x.ask(person));
            refused("both(" + person + ", 0)", STATE, x -> x.both(person, 0));
            refused("both(0, " + person + ")", STATE, x -> x.both(0, person));
            refused("both are one", ARGUMENT, x -> x.both(person, person));
            refused("rests(2, " + person + ")", STATE, x -> x.rests(2, person));
            refused("rests(" + person + ", 0)", STATE, x -> x.rests(person, 0));
        }
        refused("both are one", ARGUMENT, x -> x.both(0, 0));
        refused("0 is not ON 2", STATE, x -> x.rests(0, 2));
        refused("3 is not ON 0", STATE, x -> x.rests(3, 0));
        refused("itself", STATE, x -> x.rests(2, 2));
        refused("no such person", INDEX, x -> x.rests(2, 6));
        refused("no such person", INDEX, x -> x.rests(-1, 0));
    }

    private static void ofTouch() {
        for (int person : new int[] {-1, 6, MIN, MAX}) {
            refused("pushes(" + person + ", 0)", INDEX, x -> x.pushes(person, 0));
            refused("pushes(0, " + person + ")", INDEX, x -> x.pushes(0, person));
            refused("tell(" + person + ")", INDEX, x -> x.tell(person));
            refused("cuts(" + person + ")", INDEX, x -> x.cuts(person));
        }
    }

    private static void ofNumbers() {
        for (int n : new int[] {0, 13, -1, MIN, MAX}) {
            refused("roster(" + n + ", 0, -1)", ARGUMENT, x -> x.roster(n, 0, NONE));
        }
        for (int n : new int[] {-1, 1000, MIN, MAX}) {
            refused("roster(1, " + n + ", 0)", ARGUMENT, x -> x.roster(1, n, 0));
            refused("pairs(" + n + ")", ARGUMENT, x -> x.pairs(n));
        }
        for (int n : new int[] {-1, 5, MIN, MAX}) {
            refused("odds(0, " + n + ")", ARGUMENT, x -> x.odds(0, n));
            refused("odds(6, " + n + ")", INDEX, x -> x.odds(6, n));
        }
        refused("odds(-1, 0)", INDEX, x -> x.odds(-1, 0));
    }

    private static void ofHours() {
        for (int ring : new int[] {-1, 5, MIN, MAX}) {
            refused("ring(" + ring + ")", INDEX, x -> x.ring(ring));
        }
        for (int n : new int[] {-1, 61, MIN, MAX}) {
            refused("ahead(0, " + n + ")", ARGUMENT, x -> x.ahead(0, n));
            refused("ahead(6, " + n + ")", INDEX, x -> x.ahead(6, n));
            refused("trial(" + n + ", true)", ARGUMENT, x -> x.trial(n, true));
            refused("trial(" + n + ", false)", ARGUMENT, x -> x.trial(n, false));
            refused("span(" + n + ", true)", ARGUMENT, x -> x.span(n, true));
            refused("span(" + n + ", false)", ARGUMENT, x -> x.span(n, false));
        }
        for (int person : new int[] {-1, 6, MIN, MAX}) {
            refused("ahead(" + person + ", 0)", INDEX, x -> x.ahead(person, 0));
            refused("led(" + person + ", true)", INDEX, x -> x.led(person, true));
            refused("led(" + person + ", false)", INDEX, x -> x.led(person, false));
        }
        for (int what : new int[] {-1, 6, MIN, MAX}) {
            refused("log(0, " + what + ")", ELEMENT, x -> x.log(0, what));
            refused("log(9, " + what + ")", ELEMENT, x -> x.log(9, what));
        }
    }

    /** None of these changes a thing, nor the TAPE; each answers as on a tower that was asked nothing ahead. */
    private static void questions() {
        List<Question> all = new ArrayList<>(List.of(WakeTower::total, WakeTower::ground, WakeTower::height,
                WakeTower::weakest, WakeTower::outs, WakeTower::sleeps, WakeTower::key, WakeTower::pillars, WakeTower::left,
                WakeTower::herald, WakeTower::dearest, WakeTower::alone, WakeTower::tired, WakeTower::twins,
                WakeTower::reserves, WakeTower::sleepers, WakeTower::soon, WakeTower::fault));
        all.addAll(List.of(x -> x.roster(12, 60, NONE), x -> x.roster(12, 60, 11), x -> x.roster(2, 150, NONE),
                x -> x.roster(1, 0, 0), x -> x.roster(3, 90, 1), x -> x.roster(2, 999, 1), x -> x.pairs(50)));
        all.addAll(List.of(x -> x.trial(60, true), x -> x.trial(60, false), x -> x.span(60, true), x -> x.span(60, false),
                x -> x.ring(1), x -> x.log(0, 2), x -> x.rests(2, 0), x -> x.both(0, 2), x -> x.both(2, 3)));
        for (int person = 0; person < 4; person++) {
            all.addAll(ofOne(person));
        }
        WakeTower x = rich(1);
        for (int i = 0; i < all.size(); i++) {
            due("question " + i + " behind others", all.get(i).of(x), all.get(i).of(rich(1)));
        }
        for (int i = all.size() - 1; i >= 0; i--) {
            due("question " + i + " once more", all.get(i).of(x), all.get(i).of(rich(1)));
        }
        WakeTower y = rich(1);
        for (Question question : all) {
            question.of(y);
        }
        same("questions", y, rich(1), TAPE.length());
        rowsAsked();
    }

    private static void rowsAsked() {
        WakeTower y = rich(1);
        rows(y, 3, 5);
        due("guard()", y.guard(0), 0);
        due("fault() knows no rows", y.fault(), FAULT);
        rows(y, 3, 5);
        due("solo()", y.solo(), 1);
        due("fault() knows no rows", y.fault(), FAULT);
        WakeTower twin = rich(1);
        twin.end(0);
        same("rows", y, twin, 0);
    }

    private static List<Question> ofOne(int person) {
        List<Question> all = new ArrayList<>(List.of(x -> x.more(person), x -> x.falls(person), x -> x.rounds(person),
                x -> x.fallen(person, 1), x -> x.pushes(person, 0), x -> x.tell(person), x -> x.cuts(person)));
        all.addAll(List.of(x -> x.odds(person, 4), x -> x.ahead(person, 60), x -> x.led(person, true), x -> x.led(person, false)));
        if (person != 1) {
            all.addAll(List.of(x -> x.feels(person), x -> x.sure(person), x -> x.free(person), x -> x.ask(person)));
        }
        return all;
    }
}
