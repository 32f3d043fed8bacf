import java.util.Arrays;

/**
 * The edges that the document's part 1 and the promises 2 to 6 name: the tape, the texts of THE TOWER and of
 * THE LAW, and their first wrong byte. In a wrong text ^ stands ahead of the first wrong byte; without it the
 * text is wrong at its length.
 */
public final class TextEdgeTest extends Checks {
    private static final String P = "person weight 9 full 99;";
    private static final String PP = P + P;
    private static final String PPP = PP + P;

    public static void main(String[] args) {
        run("the tape has at most 400 bytes", TextEdgeTest::tapeRoom);
        run("of each number the highest first", TextEdgeTest::highestFirst);
        run("end: n of 0 to what it has", TextEdgeTest::ends);
        run("fault: NONE without one, and ahead of any", TextEdgeTest::noFault);
        run("an empty text has no LINE", TextEdgeTest::emptyText);
        run("at most 14 LINES", TextEdgeTest::lines);
        run("at most 12 texts", TextEdgeTest::texts);
        run("PEOPLE at most 8", TextEdgeTest::people);
        run("WEIGHT 1 to 99", TextEdgeTest::weights);
        run("FULL 0 to 999", TextEdgeTest::fulls);
        run("FULL at first", TextEdgeTest::atFirst);
        run("NEED 0 to 8", TextEdgeTest::needs);
        run("HOUR 0 to 23", TextEdgeTest::hours);
        run("DAY 0 to 999", TextEdgeTest::days);
        run("numbers of 1 to 3 digits", TextEdgeTest::digits);
        run("H: a person by then", TextEdgeTest::byThen);
        run("up: H is DOWN by then", TextEdgeTest::downByThen);
        run("asleep: of one that is not", TextEdgeTest::sleepers);
        run("RING 0 to 4", TextEdgeTest::rings);
        run("on: of RING 0 none", TextEdgeTest::onTold);
        run("T: none twice", TextEdgeTest::noneTwice);
        run("T: people by then", TextEdgeTest::lettersOfPeople);
        run("T: UP in the RING below", TextEdgeTest::ringBelow);
        run("nobody GIVES WAY in the end", TextEdgeTest::givesWay);
        run("nobody HANGS in the end", TextEdgeTest::hangs);
        run("words as long as a to z", TextEdgeTest::wholeWords);
        run("blanks are 32", TextEdgeTest::blanks);
        run("signs", TextEdgeTest::signs);
        run("nothing stays", TextEdgeTest::nothingStays);
        run("what must come next", TextEdgeTest::mustCome);
        end("TextEdgeTest");
    }

    private static WakeTower right(String text) {
        WakeTower x = new WakeTower();
        right(x, text);
        return x;
    }

    private static void right(WakeTower x, String text) {
        int texts = x.count(1);
        feed(x, text);
        try {
            due("tower(" + text + ")", x.tower(), texts + 1);
        } catch (IllegalArgumentException e) {
            due("tower(" + text + ") is right: fault()", x.fault(), NONE);
        }
        due("fault() of " + text, x.fault(), NONE);
    }

    private static void wrongAt(String marked) {
        WakeTower x = new WakeTower();
        wrongAt(x, marked);
        due("nothing stays of " + marked, x.count(0) + x.count(1) + x.count(3) + x.count(4) + x.count(6) + x.count(5), 1);
    }

    private static void wrongAt(WakeTower x, String marked) {
        int mark = marked.indexOf('^');
        wrongTower(x, marked.replace("^", ""), mark < 0 ? marked.length() : mark);
    }

    // ---- the tape

    private static void tapeRoom() {
        WakeTower x = new WakeTower();
        for (int i = 1; i <= 20; i++) {
            due("feed " + i, x.feed(0, 0, 0, 0, 0), 20 * i);
        }
        due("420 would be more than 400", x.feed(0, 0, 0, 0, 0), NONE);
        yes("400 are there yet", x.end(400));
        no("and none more", x.end(401));
        yes("381 are left", x.end(381));
        due("401 would be more than 400", x.feed(0, 0, 0, 0, 0), NONE);
        no("none came", x.end(382));
        yes("380 are left", x.end(380));
        due("just 400", x.feed(0, 0, 0, 0, 0), 400);
        due("and none more", x.feed(0, 0, 0, 0, 0), NONE);
        // the 400 bytes are all read: the last of them is the wrong one
        WakeTower y = new WakeTower();
        String whole = " ".repeat(399) + "?";
        feed(y, whole);
        fails("tower()", ARGUMENT, y::tower);
        due("fault() at the last byte", y.fault(), 399);
        feed(y, "need 3" + " ".repeat(394));
        due("400 bytes that are right", y.tower(), 1);
        due("used up: there is room again", y.feed(0, 0, 0, 0, 0), 20);
        // what did not come is not read
        WakeTower z = new WakeTower();
        feed(z, " ".repeat(390) + "need 7");
        due("no room", z.feed(-1, -1, -1, -1, -1), NONE);
        due("what was there", z.tower(), 1);
        due("NEED", z.count(5), 7);
    }

    private static void highestFirst() {
        WakeTower x = new WakeTower();
        // "need 7; hour 9;day 5"
        due("feed", x.feed(0x6e656564, 0x20373b20, 0x686f7572, 0x20393b64, 0x61792035), 20);
        x.tower();
        due("NEED, HOUR, DAY", x.count(5) * 100 + x.count(3) * 10 + x.count(4), 795);
        // bytes of numbers below 0 are 128 to 255: none is a sign of a text
        int[] places = {24, 16, 8, 0};
        for (int i = 0; i < 4; i++) {
            x.end(0);
            x.feed(0x20202020 & ~(255 << places[i]) | 255 << places[i], 0x20202020, 0x20202020, 0x20202020, 0x20202020);
            fails("tower() with a byte of 255", ARGUMENT, x::tower);
            due("fault()", x.fault(), i);
        }
        x.feed(0x20202020, 0x20202020, 0x20202020, 0x20202020, 0x20202000);
        fails("tower() with a byte of 0", ARGUMENT, x::tower);
        due("fault()", x.fault(), 19);
    }

    private static void ends() {
        WakeTower x = new WakeTower();
        yes("end(0) of none", x.end(0));
        no("end(1) of none", x.end(1));
        no("end(-1) of none", x.end(-1));
        x.feed(0x6e656564, 0x20337878, 0, 0, 0);
        no("end(21) of 20", x.end(21));
        no("end(MAX)", x.end(Integer.MAX_VALUE));
        no("end(-1)", x.end(-1));
        no("end(MIN)", x.end(Integer.MIN_VALUE));
        yes("nothing happened: end(20)", x.end(20));
        yes("end(6)", x.end(6));
        no("end(7) then", x.end(7));
        yes("end(6) once more", x.end(6));
        due("tower()", x.tower(), 1);
        due("NEED of the first six bytes", x.count(5), 3);
        yes("end(0) of a tape that is used up", x.end(0));
        no("end(1) of it", x.end(1));
        bytesLeftAway();
    }

    /** What stood behind the first n bytes is not read, were it blanks, digits, letters or signs. */
    private static void bytesLeftAway() {
        String[] tapes = {"need      ", "need 3    ", "need 33333", "needneedne", "day 1;day 2", "need 3;;;;"};
        int[] lengths = {4, 6, 6, 4, 6, 6};
        int[] faults = {4, NONE, NONE, 4, 6, NONE};
        for (int i = 0; i < tapes.length; i++) {
            WakeTower x = new WakeTower();
            feed(x, tapes[i]);
            yes("end(" + lengths[i] + ")", x.end(lengths[i]));
            if (faults[i] == NONE) {
                due("tower() of the first bytes of " + tapes[i], x.tower(), 1);
                due("NEED", x.count(5), 3);
            } else {
                fails("tower() of the first bytes of " + tapes[i], ARGUMENT, x::tower);
            }
            due("fault()", x.fault(), faults[i]);
        }
        // a whole tape of blanks, cut: the text is wrong at its own length
        WakeTower x = new WakeTower();
        feed(x, "need" + " ".repeat(396));
        x.end(9);
        fails("tower()", ARGUMENT, x::tower);
        due("fault()", x.fault(), 9);
        WakeTower y = new WakeTower();
        feed(y, "fade 3 if top" + " ".repeat(300));
        y.end(9);
        fails("law()", ARGUMENT, y::law);
        due("fault()", y.fault(), 9);
        // a text used up leaves nothing behind for a shorter one
        feed(y, "fade 3;fade 4");
        due("law()", y.law(), 2);
        feed(y, "fade 3");
        due("law()", y.law(), 1);
        rows(y, 1, 2, 3);
        fails("solo()", ARGUMENT, y::solo);
        due("no rows are left", y.solo(), 0);
    }

    private static void noFault() {
        WakeTower x = new WakeTower();
        due("ahead of any", x.fault(), NONE);
        x.feed(0x78787878, 0, 0, 0, 0);
        due("fed, but not read", x.fault(), NONE);
        wrongAt(x, "  ^xxxx");
        x.feed(0x20202020, 0, 0, 0, 0);
        due("the latest that was read", x.fault(), 2);
        right(x, "");
        due("a right one", x.fault(), NONE);
        wrongLaw(x, "fade", 4);
        due("of a law too", x.fault(), 4);
        due("a right law", law(x, ""), 0);
        due("fault() then", x.fault(), NONE);
        wrongAt(x, "need ^9");
        law(x, "fade 1");
        due("a right law behind a wrong text", x.fault(), NONE);
    }

    // ---- the lines

    private static void emptyText() {
        WakeTower x = right("");
        due("no LINE", x.count(0), 0);
        right(x, " ");
        right(x, " ".repeat(400));
        due("texts", x.count(1), 3);
        wrongAt("^;");
        wrongAt(" ^; ");
        wrongAt("need 1;");
        wrongAt("need 1; ");
        wrongAt("need 1;^;need 1");
        wrongAt("need 1; ^;");
        right("need 1");
    }

    private static void lines() {
        right("day 1;".repeat(13) + "day 2");
        due("the 14th is read", right("day 1;".repeat(13) + "day 2").count(4), 2);
        wrongAt("day 1;".repeat(14) + "^day 1");
        wrongAt("day 1;".repeat(14) + " ^day 1");
        wrongAt("day 1;".repeat(14) + "^x");
        wrongAt("day 1;".repeat(14) + "^;");
        wrongAt("day 1;".repeat(14));
        wrongAt("day 1;".repeat(14) + "  ");
        // a 15th one is wrong at its word, not at what is wrong in it
        wrongAt("day 1;".repeat(14) + "^day 1000");
        // what is wrong ahead of it is the first
        wrongAt("day 1;".repeat(13) + "day ^1000;day 1");
        right("day 1;".repeat(13) + "day 1  ");
    }

    private static void texts() {
        WakeTower x = new WakeTower();
        for (int i = 1; i <= 12; i++) {
            right(x, "day " + i);
            due("texts", x.count(1), i);
            if (i == 11) {
                x.image();
            }
        }
        feed(x, "day 13");
        fails("a 13th", UNSUPPORTED, x::tower);
        due("DAY", x.count(4), 12);
        due("texts", x.count(1), 12);
        due("fault() of a right text", x.fault(), NONE);
        no("the tape is used up", x.end(1));
        feed(x, "");
        fails("an empty 13th", UNSUPPORTED, x::tower);
        feed(x, "day 1000");
        fails("a wrong 13th", ARGUMENT, x::tower);
        due("fault() of it", x.fault(), 4);
        feed(x, "day 13");
        fails("a 13th yet", UNSUPPORTED, x::tower);
        due("a law is no text of THE TOWER", law(x, "fade 1"), 1);
        // with the image 11 texts come back
        yes("back()", x.back());
        due("texts", x.count(1), 11);
        right(x, "day 77");
        due("the 12th", x.count(1), 12);
        feed(x, "day 13");
        fails("a 13th again", UNSUPPORTED, x::tower);
        due("wrong texts count for nothing", afterWrongTexts().count(1), 12);
    }

    private static WakeTower afterWrongTexts() {
        WakeTower x = new WakeTower();
        for (int i = 1; i <= 12; i++) {
            wrongAt(x, "day ^1000");
            right(x, "day " + i);
        }
        return x;
    }

    private static void people() {
        due("8 in a text", right(text(people(8, 9, 99))).count(0), 8);
        wrongAt(people(8, 9, 99) + "^person weight 9 full 99");
        wrongAt(people(8, 9, 99) + " ^person");
        wrongAt(people(8, 9, 99) + "^person weight 0");
        WakeTower x = right(text(people(5, 9, 99)));
        wrongAt(x, people(3, 9, 99) + "^person weight 9 full 99");
        due("none came", x.count(0), 5);
        right(x, text(people(3, 9, 99)));
        due("8 in two texts", x.count(0), 8);
        wrongAt(x, "^person weight 9 full 99");
        wrongAt(x, "  ^person");
        right(x, "up 7 ring 0;asleep 7");
        due("numbered from 0 on", x.person(7, 5), 1);
        fails("person 8", INDEX, () -> x.person(8, 0));
        fails("person -1", INDEX, () -> x.person(-1, 0));
        wrongAt(x, "up ^8 ring 0");
    }

    private static void weights() {
        due("1", right("person weight 1 full 9").person(0, 0), 1);
        due("001", right("person weight 001 full 9").person(0, 0), 1);
        due("99", right("person weight 99 full 9").person(0, 0), 99);
        due("099", right("person weight 099 full 9").person(0, 0), 99);
        for (String n : new String[] {"0", "00", "000", "100", "999", "0001", "0099", "1000", "99999999999"}) {
            wrongAt("person weight ^" + n + " full 9");
        }
        wrongAt("person weight ^-1 full 9");
        wrongAt("person weight ^full 9");
        wrongAt("person weight ^; full 9");
    }

    private static void fulls() {
        due("0", right("person weight 9 full 0").person(0, 1), 0);
        due("000", right("person weight 9 full 000").person(0, 1), 0);
        due("999", right("person weight 9 full 999").person(0, 1), 999);
        for (String n : new String[] {"1000", "0999", "0000", "9999", "10000000000"}) {
            wrongAt("person weight 9 full ^" + n);
        }
        wrongAt("person weight 9 full ^-1");
        wrongAt("person weight 9 full ^;person weight 9 full 9");
    }

    private static void atFirst() {
        WakeTower x = right("person weight 7 full 0;person weight 8 full 999");
        long[][] due = {{7, 0, 0, 0, 0, 0, NONE, 0, 0}, {8, 999, 999, 0, 0, 0, NONE, 0, 0}};
        for (int i = 0; i < 2; i++) {
            for (int what = 0; what < 9; what++) {
                due("person(" + i + ", " + what + ")", x.person(i, what), due[i][what]);
            }
        }
        due("HOUR, DAY", x.count(3) + x.count(4), 0);
        due("NEED", x.count(5), 1);
        due("SEED", x.seed(1), 1);
    }

    private static void needs() {
        due("0", right("need 0").count(5), 0);
        due("8", right("need 8").count(5), 8);
        due("008", right("need 008").count(5), 8);
        wrongAt("need ^9");
        wrongAt("need ^10");
        wrongAt("need ^0008");
        due("the latest one", right("need 8;need 3").count(5), 3);
    }

    private static void hours() {
        due("0", right("hour 5;hour 0").count(3), 0);
        due("23", right("hour 23").count(3), 23);
        wrongAt("hour ^24");
        wrongAt("hour ^99");
        wrongAt("hour ^0023");
        due("the latest one", right("hour 8;hour 3").count(3), 3);
    }

    private static void days() {
        due("0", right("day 5;day 0").count(4), 0);
        due("999", right("day 999").count(4), 999);
        wrongAt("day ^1000");
        wrongAt("day ^9999");
        wrongAt("day ^0999");
        due("the latest one", right("day 8;day 3").count(4), 3);
    }

    private static void digits() {
        for (String n : new String[] {"3", "03", "003"}) {
            due("need " + n, right("need " + n).count(5), 3);
        }
        wrongAt("need ^0003");
        wrongAt("need ^00000000000000000003");
        wrongAt("need ");
        wrongAt("need ^x");
        wrongAt("need 3 ^3");
        wrongAt("need 3^x");
        due("a word right behind a number", right("person weight 9full 8").person(0, 1), 8);
        due("H of three digits", right(PP + "up 001 ring 0").count(6), 2);
        wrongAt(PP + "up ^0001 ring 0");
        wrongAt(PP + "up 1 ring ^0000");
        wrongAt(PP + "asleep ^0001");
        // numbers that would go round an int
        wrongAt("need ^4294967299");
        wrongAt("day ^18446744073709551617");
    }

    // ---- who is told

    private static void byThen() {
        wrongAt("up ^0 ring 0");
        wrongAt("up ^0 ring 0;" + P + "need 1");
        due("told just ahead", right(P + "up 0 ring 0").count(6), 1);
        wrongAt(P + "up ^1 ring 0");
        wrongAt(P + "up ^1 ring 0;" + P + "need 1");
        due("the last one", right(PPP + "up 2 ring 0").count(6), 4);
        wrongAt(PPP + "up ^3 ring 0");
        wrongAt(PPP + "up ^999 ring 0");
        wrongAt("asleep ^0");
        wrongAt("asleep ^0;" + text(P));
        due("asleep just ahead", right(P + "asleep 0").sleepers(), 1);
        wrongAt(PPP + "asleep ^3");
        due("asleep the last one", right(PPP + "asleep 2").sleepers(), 4);
        wrongAt(PPP + "up");
        wrongAt(PPP + "up ^a ring 0");
        wrongAt(PPP + "asleep ");
        WakeTower x = right(text(P));
        wrongAt(x, "up ^1 ring 0");
        right(x, "up 0 ring 0");
    }

    private static void downByThen() {
        right(PP + "up 0 ring 0;up 1 ring 0");
        wrongAt(PP + "up 0 ring 0;up ^0 ring 0");
        wrongAt(PP + "up 0 ring 0;up ^0 ring 1 on a");
        WakeTower x = right(PP + "up 0 ring 0");
        wrongAt(x, "up ^0 ring 0");
        wrongAt(x, "up 1 ring 0;up ^1 ring 0");
        right(x, "up 1 ring 0");
        x.out(1);
        right(x, "up 1 ring 1 on a");
        due("it is UP again", x.person(1, 6), 1);
    }

    private static void sleepers() {
        due("once", right(PP + "asleep 1").sleepers(), 2);
        wrongAt(PP + "asleep 1;asleep ^1");
        due("both", right(PP + "asleep 1;asleep 0").sleepers(), 3);
        WakeTower x = right(PP + "asleep 1");
        wrongAt(x, "asleep ^1");
        right(x, "asleep 0");
        x.wake(1);
        due("woken", x.sleepers(), 1);
        right(x, "asleep 1");
        due("asleep again", x.sleepers(), 3);
        x.wake(0);
        x.sleep(0);
        wrongAt(x, "asleep ^0");
        // one who is DOWN may sleep as well as one who is UP
        due("one who is UP", right(PP + "up 1 ring 0;asleep 1").sleepers(), 2);
    }

    private static void rings() {
        String five = people(6, 9, 99) + "up 0 ring 0;up 1 ring 1 on a;up 2 ring 2 on b;up 3 ring 3 on c;";
        due("RING 4", right(five + "up 4 ring 4 on d").person(4, 6), 4);
        due("RING 004", right(five + "up 4 ring 004 on d").height(), 5);
        wrongAt(five + "up 4 ring ^5 on d");
        wrongAt(five + "up 4 ring 4 on d;up 5 ring ^5 on e");
        wrongAt(five + "up 4 ring ^999");
        due("RING 0", right(P + "up 0 ring 0").person(0, 6), 0);
        wrongAt(P + "up 0 ring ^-1");
        wrongAt(P + "up 0 ring ^on a");
    }

    private static void onTold() {
        right(PP + "up 0 ring 0");
        wrongAt(PP + "up 0 ring 0 ^on");
        wrongAt(PP + "up 0 ring 0 ^on a");
        wrongAt(PP + "up 0 ring 0;up 1 ring 0 ^on a");
        due("of RING 1 it must be", right(PP + "up 0 ring 0;up 1 ring 1 on a").person(1, 7), 1);
        wrongAt(PP + "up 0 ring 0;up 1 ring 1");
        wrongAt(PP + "up 0 ring 0;up 1 ring 1  ");
        wrongAt(PP + "up 0 ring 0;up 1 ring 1^;need 1");
        wrongAt(PP + "up 0 ring 0;up 1 ring 1 ^a");
        wrongAt(PP + "up 0 ring 0;up 1 ring 1 on");
        wrongAt(PP + "up 0 ring 0;up 1 ring 1 on ^;need 1");
        wrongAt(PP + "up 0 ring 0;up 1 ring 1 on ^0");
    }

    private static void noneTwice() {
        due("each once", right(PPP + "up 0 ring 0;up 1 ring 0;up 2 ring 1 on ba").person(2, 7), 3);
        wrongAt(PPP + "up 0 ring 0;up 1 ring 0;up 2 ring 1 on ^aa");
        wrongAt(PPP + "up 0 ring 0;up 1 ring 0;up 2 ring 1 on ^aba");
        wrongAt(PPP + "up 0 ring 0;up 1 ring 0;up 2 ring 1 on ^abb");
        // behind a blank another word begins
        wrongAt(PPP + "up 0 ring 0;up 1 ring 0;up 2 ring 1 on a ^a");
        wrongAt(PPP + "up 0 ring 0;up 1 ring 0;up 2 ring 1 on a ^b");
        wrongAt(PPP + "up 0 ring 0;up 1 ring 0;up 2 ring 1 on ab^7");
    }

    private static void lettersOfPeople() {
        WakeTower x = right(text(people(8, 9, 99)));
        right(x, "up 7 ring 0;up 0 ring 1 on h");
        due("h is the person 7", x.person(0, 7), 128);
        wrongAt(x, "up 1 ring 1 on ^i");
        wrongAt(x, "up 1 ring 1 on ^hi");
        wrongAt(x, "up 1 ring 1 on ^ih");
        wrongAt(x, "up 1 ring 1 on ^z");
        wrongAt(x, "up 1 ring 1 on ^H");
        wrongAt(PP + "up 0 ring 0;up 1 ring 1 on ^c");
        wrongAt(PP + "up 0 ring 0;up 1 ring 1 on ^ac;" + text(P));
        // all of eight letters
        WakeTower wide = right(people(8, 9, 99) + text("up 0 ring 0;up 1 ring 0;up 2 ring 0;up 3 ring 0;up 4 ring 0;"));
        right(wide, "up 5 ring 0;up 6 ring 0;up 7 ring 1 on gfedcba");
        due("on seven", wide.person(7, 7), 127);
    }

    private static void ringBelow() {
        String both = PPP + "up 0 ring 0;up 1 ring 1 on a;";
        due("on the RING below", right(both + "up 2 ring 2 on b").person(2, 7), 2);
        wrongAt(both + "up 2 ring 2 on ^a");
        wrongAt(both + "up 2 ring 2 on ^ab");
        wrongAt(both + "up 2 ring 2 on ^ba");
        wrongAt(both + "up 2 ring 1 on ^b");
        wrongAt(both + "up 2 ring 3 on ^b");
        wrongAt(both + "up 2 ring 2 on ^c");
        wrongAt(PPP + "up 0 ring 0;up 2 ring 1 on ^b");
        wrongAt(PPP + "up 0 ring 0;up 2 ring 1 on ^ab;up 1 ring 0");
        wrongAt(PPP + "up 2 ring 1 on ^a;up 0 ring 0");
        WakeTower x = right(PPP + "up 0 ring 0");
        wrongAt(x, "up 2 ring 1 on ^b");
        right(x, "up 2 ring 1 on a");
        x.out(2);
        x.out(0);
        wrongAt(x, "up 2 ring 1 on ^a");
    }

    private static void givesWay() {
        String two = "person weight 9 full 50;person weight ";
        right(two + "50 full 9;up 0 ring 0;up 1 ring 1 on a");
        wrongAt(two + "51 full 9;up 0 ring 0;up 1 ring 1 on a");
        wrongAt(two + "51 full 9;up 0 ring 0;up 1 ring 1 on a  ");
        right("person weight 9 full 0;up 0 ring 0");
        wrongAt("person weight 9 full 0;person weight 1 full 0;up 0 ring 0;up 1 ring 1 on a");
        // in the end alone: 0 gives way till it sleeps
        right("person weight 9 full 0;person weight 9 full 99;person weight 9 full 9;up 0 ring 0;up 1 ring 0;"
                + "up 2 ring 1 on ab;asleep 0");
        wrongAt("person weight 9 full 0;person weight 9 full 99;person weight 9 full 9;up 0 ring 0;up 1 ring 0;"
                + "up 2 ring 1 on ab");
        WakeTower x = right(two + "50 full 9;up 0 ring 0;person weight 1 full 1");
        wrongAt(x, "up 1 ring 1 on a;up 2 ring 1 on a");
        right(x, "up 1 ring 1 on a");
        // STRENGTH of now, not FULL, is what holds
        x.hours(1);
        due("both have come down", x.count(6), 0);
        wrongAt(x, "up 0 ring 0;up 1 ring 1 on a");
    }

    private static void hangs() {
        String arch = PPP + "up 0 ring 0;up 1 ring 0;up 2 ring 1 on ab;";
        right(arch + "asleep 0");
        right(arch + "asleep 1");
        wrongAt(arch + "asleep 0;asleep 1");
        wrongAt(arch + "asleep 0;asleep 1 ");
        wrongAt(PP + "asleep 0;up 0 ring 0;up 1 ring 1 on a");
        right(PP + "asleep 0;up 0 ring 0");
        right(PP + "asleep 1;up 0 ring 0;up 1 ring 1 on a");
        WakeTower x = right(text(arch));
        wrongAt(x, "asleep 0;asleep 1");
        due("nobody sleeps", x.sleepers(), 0);
        right(x, "asleep 0");
        wrongAt(x, "asleep 1");
    }

    // ---- words, blanks, signs

    private static void wholeWords() {
        right("person weight9full9");
        right(PP + "up0ring0;up1ring1on a");
        wrongAt("^personweight 9 full 9");
        wrongAt("person ^weights 9 full 9");
        wrongAt("person ^weigh 9 full 9");
        wrongAt("person weight 9 ^fulll 9");
        wrongAt("^persons weight 9 full 9");
        wrongAt("^perso");
        wrongAt("^per son weight 9 full 9");
        wrongAt(PP + "^ups 0 ring 0");
        wrongAt(PP + "^u");
        wrongAt(PP + "up 0 ^rings 0");
        wrongAt(PP + "up 0 ring 0;up 1 ring 1 ^ona");
        wrongAt(PP + "^asleeps 0");
        wrongAt("^needs 1");
        wrongAt("^hours 1");
        wrongAt("^days 1");
        wrongAt("^ring 0");
        wrongAt("^fade 3");
    }

    private static void blanks() {
        right("  person  weight  9  full  9  ;  up  0  ring  0  ;  need  1  ");
        wrongAt("need 1^\t");
        wrongAt("^\tneed 1");
        wrongAt("need^\t1");
        for (int sign : new int[] {0, 9, 10, 13, 31, 33, 127, 128, 160, 255}) {
            wrongAt("need ^" + (char) sign + "1");
        }
        wrongAt("^ne ed 1");
        wrongAt("need 1 ^2");
        right("need 1 ");
    }

    private static void signs() {
        wrongAt("need 1^,need 2");
        wrongAt("need 1^:need 2");
        wrongAt("need 1 ^need 2");
        wrongAt("need^=1");
        wrongAt("^Need 1");
        wrongAt("^NEED 1");
        wrongAt("^`");
        wrongAt("^{");
        wrongAt("^5");
        wrongAt("^(need 1)");
        wrongAt("need ^/");
        wrongAt("need ^:");
        // what stands just beside a to z and 0 to 9 belongs to no word and to no number
        wrongAt("need 1^/");
        wrongAt("need 1^:");
        wrongAt(PP + "up 0 ring 0;up 1 ring 1 on a^`");
        wrongAt(PP + "up 0 ring 0;up 1 ring 1 on a^{");
        wrongAt(PP + "up 0 ring 0;up 1 ring 1 on a^A");
    }

    private static void nothingStays() {
        WakeTower x = right(PP + "up 0 ring 0;need 2;hour 3;day 4");
        wrongAt(x, P + "up 1 ring 0;asleep 0;need 7;hour 7;day 7;up ^0 ring 0");
        due("PEOPLE", x.count(0), 2);
        due("texts", x.count(1), 1);
        due("HOUR, DAY, NEED", x.count(3) * 100 + x.count(4) * 10 + x.count(5), 342);
        due("UP", x.count(6), 1);
        due("nobody sleeps", x.sleepers(), 0);
        due("STRENGTH of all", x.count(8), 198);
        wrongAt(x, "asleep 0;need 7;hour 7;day 7;");
        wrongAt(x, "asleep 0;need 7;hour 7;day 7;person ^3");
        due("HOUR, DAY, NEED", x.count(3) * 100 + x.count(4) * 10 + x.count(5), 342);
        due("nobody sleeps", x.sleepers(), 0);
        right(x, P + "up 1 ring 0;asleep 0;need 7;hour 7;day 8");
        due("HOUR, DAY, NEED", x.count(3) * 100 + x.count(4) * 10 + x.count(5), 787);
        due("PEOPLE", x.count(0), 3);
    }

    /** A text that ends ahead of its end is wrong at its length, whatever must come. */
    private static void mustCome() {
        String[] whole = {"person", "weight", "9", "full", "9", ";", "person", "weight", "8", "full", "9", ";", "up", "0",
            "ring", "0", ";", "up", "1", "ring", "1", "on", "a", ";", "asleep", "1", ";", "need", "2", ";", "hour", "2", ";",
            "day", "2"};
        // where it may end: behind the lines that are whole
        String ends = " 5 11 16 23 26 29 32 35 ";
        StringBuilder text = new StringBuilder();
        for (int i = 1; i <= whole.length; i++) {
            text.append(whole[i - 1]);
            if (ends.contains(" " + i + " ")) {
                right(text.toString());
            } else {
                wrongAt(text.toString());
                wrongAt(text + "  ");
            }
            text.append(' ');
        }
        // each thing that is another one than must come is the first wrong one
        for (int i = 0; i < whole.length; i++) {
            if (!ends.contains(" " + i + " ")) {
                wrongAt(String.join(" ", Arrays.copyOf(whole, i)) + " ^? " + whole[i]);
                wrongAt(String.join(" ", Arrays.copyOf(whole, i)) + " ^xyz " + whole[i]);
            }
        }
    }
}
