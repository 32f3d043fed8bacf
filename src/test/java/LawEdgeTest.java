import java.util.Arrays;

/**
 * The edges that the document names of THE LAW: its text and the first wrong byte of it (^ stands ahead of it;
 * without ^ the text is wrong at its length), and what FADES, MENDS, DROWSES are by it.
 */
public final class LawEdgeTest extends Checks {
    /** 1 and 2 ON 0, 3 ON 1; 4 is a reserve; 0 bears 28, 1 bears 8. */
    private static final String FIVE = "person weight 5 full 100;person weight 6 full 90;person weight 14 full 80;"
            + "person weight 8 full 70;person weight 9 full 60;up 0 ring 0;up 1 ring 1 on a;up 2 ring 1 on a;"
            + "up 3 ring 2 on b";

    public static void main(String[] args) {
        run("at most 12 LINES", LawEdgeTest::lines);
        run("N 0 to 100", LawEdgeTest::amounts);
        run("a NUMBER of 1 to 3 digits", LawEdgeTest::numbers);
        run("6 deep", LawEdgeTest::deep);
        run("deep by not and ( together", LawEdgeTest::mixed);
        run("not deeper by others beside", LawEdgeTest::beside);
        run("words", LawEdgeTest::words);
        run("what must come next", LawEdgeTest::mustCome);
        run("C is whole", LawEdgeTest::wholeConditions);
        run("ATOM or SUM", LawEdgeTest::atoms);
        run("blanks", LawEdgeTest::blanks);
        run("in place of the one before", LawEdgeTest::inPlace);
        run("a wrong law", LawEdgeTest::wrongLaws);
        run("without a text", LawEdgeTest::untold);
        run("a law of no LINE", LawEdgeTest::noLine);
        run("the sum of all that hold", LawEdgeTest::sumOfAll);
        run("< and >", LawEdgeTest::strict);
        run("and ahead of or", LawEdgeTest::binding);
        run("person, weight, strength", LawEdgeTest::ownNumbers);
        run("ring and borne of one DOWN", LawEdgeTest::ringAndBorne);
        run("asleep, down, top", LawEdgeTest::states);
        run("awake and hour", LawEdgeTest::awakeAndHour);
        run("sums that are long", LawEdgeTest::longSums);
        run("deep laws hold", LawEdgeTest::deepLaws);
        run("by all as it is ahead of the HOUR", LawEdgeTest::asAhead);
        run("by all as it is then", LawEdgeTest::asThen);
        end("LawEdgeTest");
    }

    private static WakeTower right(String text, int lines) {
        WakeTower x = new WakeTower();
        feed(x, text);
        try {
            due("law(" + text + ")", x.law(), lines);
        } catch (IllegalArgumentException e) {
            due("law(" + text + ") is right: fault()", x.fault(), NONE);
        }
        due("fault() of " + text, x.fault(), NONE);
        due("LINES of " + text, x.count(2), lines);
        return x;
    }

    private static void wrongAt(String marked) {
        int mark = marked.indexOf('^');
        wrongLaw(new WakeTower(), marked.replace("^", ""), mark < 0 ? marked.length() : mark);
    }

    /** Those for whom a condition holds, as bits. */
    private static int holds(WakeTower x, String condition) {
        law(x, "fade 1 if " + condition);
        int set = 0;
        for (int i = 0; i < x.count(0); i++) {
            set |= x.person(i, 9) << i;
        }
        return set;
    }

    // ---- the text

    private static void lines() {
        right("mend 5;".repeat(11) + "mend 6", 12);
        wrongAt("mend 5;".repeat(12) + "^mend 5");
        wrongAt("mend 5;".repeat(12) + "  ^mend 5");
        wrongAt("mend 5;".repeat(12) + "^x");
        wrongAt("mend 5;".repeat(12) + "^mend 101");
        wrongAt("mend 5;".repeat(12) + "^;");
        wrongAt("mend 5;".repeat(12));
        wrongAt("mend 5;".repeat(12) + " ");
        wrongAt("mend 5;".repeat(11) + "mend ^101;mend 5");
        right("fade 1 if top;mend 2;drowse 3 if 1 < 2;".repeat(3) + "fade 1;mend 2;drowse 3", 12);
        right("", 0);
        right("   ", 0);
        wrongAt("^;");
        wrongAt("fade 1;");
        wrongAt("fade 1;^;fade 1");
        right(" fade 1 ", 1);
    }

    private static void amounts() {
        for (String n : new String[] {"0", "00", "000", "1", "099", "99", "100"}) {
            right("fade " + n, 1);
            right("mend " + n + " if top", 1);
            right("drowse " + n + ";fade 1", 2);
        }
        for (String n : new String[] {"101", "999", "0100", "0000", "1000", "4294967297", "-1", "x", "; fade 1"}) {
            wrongAt("fade ^" + n);
            wrongAt("fade 1;mend ^" + n);
            wrongAt("drowse ^" + n + " if top");
        }
        WakeTower x = told(FIVE);
        law(x, "fade 100;mend 0;drowse 100");
        due("FADES", x.person(0, 9), 100);
        due("MENDS", x.person(0, 10), 0);
        due("DROWSES", x.person(0, 11), 100);
    }

    private static void numbers() {
        right("fade 1 if 0 < 999", 1);
        right("fade 1 if 000 < 099", 1);
        wrongAt("fade 1 if ^1000 < 1");
        wrongAt("fade 1 if ^0001 < 1");
        wrongAt("fade 1 if 1 < ^1000");
        wrongAt("fade 1 if 1 + ^0999 < 1");
        wrongAt("fade 1 if 1 > ^4294967296");
        wrongAt("fade 1 if ^-1 < 1");
        WakeTower x = told(FIVE);
        due("999 is more than 998", holds(x, "999 > 998"), 31);
        due("999 is not more than 999", holds(x, "999 > 999"), 0);
        due("0 is less than 1", holds(x, "000 < 001"), 31);
    }

    private static void deep() {
        right("fade 1 if " + "not ".repeat(6) + "top", 1);
        wrongAt("fade 1 if " + "not ".repeat(6) + "^not top");
        wrongAt("fade 1 if " + "not ".repeat(6) + "^not not top");
        wrongAt("fade 1 if " + "not ".repeat(6) + "^(top)");
        right("fade 1 if ((((((top))))))", 1);
        wrongAt("fade 1 if ((((((^(top)))))))");
        wrongAt("fade 1 if ((((((^((((top");
        wrongAt("fade 1 if ((((((^not top))))))");
        wrongAt("fade 1 if ((((((^(");
        wrongAt("fade 1 if ((((((");
        right("fade 1 if ((((((1 < 2))))))", 1);
        right("fade 1 if not top", 1);
        right("fade 1 if (top)", 1);
    }

    private static void mixed() {
        right("fade 1 if not (not (not (top)))", 1);
        wrongAt("fade 1 if not (not (not (^not top)))");
        wrongAt("fade 1 if not (not (not (^(top))))");
        right("fade 1 if (((not not not top)))", 1);
        wrongAt("fade 1 if (((not not not ^not top)))");
        right("fade 1 if not not not (((top)))", 1);
        wrongAt("fade 1 if not not not (((^(top))))");
        right("fade 1 if (not (not ((top or down))))", 1);
        right("fade 1 if (not (not (top or (down))))", 1);
        wrongAt("fade 1 if (not (not ((top or ^(down)))))");
    }

    private static void beside() {
        right("fade 1 if ((((((top)))))) and ((((((top))))))", 1);
        right("fade 1 if ((((((top)))))) or not not not not not not top", 1);
        right("fade 1 if (((((not top and not top) or (top)))))", 1);
        right("fade 1 if not not not not not not top and not not not not not not top;fade 1 if ((((((top))))))", 2);
        wrongAt("fade 1 if (((((not top and (^not top))))))");
        wrongAt("fade 1 if ((((((top)))))) and ((((((^(top)))))))");
        wrongAt("fade 1 if not not not not not not top or not not not not not not ^not top");
    }

    private static void words() {
        wrongAt("^tax 3");
        wrongAt("^fades 3");
        wrongAt("^fad 3");
        wrongAt("^Fade 3");
        wrongAt("^person weight 9 full 9");
        wrongAt("fade 3 ^iff top");
        wrongAt("fade 3 ^i");
        wrongAt("fade 3 ^and top");
        wrongAt("fade 3 if ^tops");
        wrongAt("fade 3 if ^up");
        wrongAt("fade 3 if ^full < 3");
        wrongAt("fade 3 if ^weights < 3");
        wrongAt("fade 3 if ^fade");
        wrongAt("fade 3 if ^and");
        wrongAt("fade 3 if ^or");
        wrongAt("fade 3 if ^nottop");
        wrongAt("fade 3 if top ^andtop");
        wrongAt("fade 3 if top ^xor top");
        right("fade3if1<2and3<4or(top)and not(down)or 1<2;mend3if(top)", 2);
        right("fade 3if 4<5", 1);
    }

    /** A law that ends ahead of its end is wrong at its length; another thing than must come is the first wrong one. */
    private static void mustCome() {
        String[] whole = {"fade", "3", "if", "not", "(", "asleep", "or", "top", "and", "hour", "+", "3", "<", "borne", "+",
            "ring", ")", "and", "down", ";", "mend", "4", "if", "awake", ">", "999", ";", "drowse", "5"};
        String ends = " 2 19 22 26 29 ";
        StringBuilder text = new StringBuilder();
        int lines = 1;
        for (int i = 1; i <= whole.length; i++) {
            text.append(whole[i - 1]);
            lines += whole[i - 1].equals(";") ? 1 : 0;
            if (ends.contains(" " + i + " ")) {
                right(text.toString(), lines);
            } else if (i != 17) {
                wrongAt(text.toString());
                wrongAt(text + "  ");
            } else {
                // behind the ) the line may end
                right(text.toString(), lines);
            }
            text.append(' ');
        }
        for (int i = 0; i < whole.length; i++) {
            String ahead = i == 0 ? "" : String.join(" ", Arrays.copyOf(whole, i)) + " ";
            wrongAt(ahead + "^? " + whole[i]);
            wrongAt(ahead + "^xyz " + whole[i]);
        }
    }

    private static void wholeConditions() {
        wrongAt("fade 3 if");
        wrongAt("fade 3 if ");
        wrongAt("fade 3 if ^;fade 3");
        wrongAt("fade 3 if (^)");
        wrongAt("fade 3 if (top");
        wrongAt("fade 3 if (top ^;fade 3");
        wrongAt("fade 3 if top^)");
        wrongAt("fade 3 if (top)^)");
        wrongAt("fade 3 if top ^top");
        wrongAt("fade 3 if top ^not down");
        wrongAt("fade 3 if top and");
        wrongAt("fade 3 if top or ");
        wrongAt("fade 3 if top and ^or down");
        wrongAt("fade 3 if top or ^and down");
        wrongAt("fade 3 if not ^and down");
        wrongAt("fade 3 if not");
        wrongAt("fade 3 ^3");
        wrongAt("fade 3 ^top");
    }

    private static void atoms() {
        wrongAt("fade 3 if hour");
        wrongAt("fade 3 if hour ^and top");
        wrongAt("fade 3 if hour ^= 3");
        wrongAt("fade 3 if hour <^= 3");
        wrongAt("fade 3 if hour <^> 3");
        wrongAt("fade 3 if hour < 3 ^< 4");
        wrongAt("fade 3 if hour < 3 + 4 ^> 4");
        wrongAt("fade 3 if hour ^3");
        wrongAt("fade 3 if hour + ^+ 3 < 4");
        wrongAt("fade 3 if ^+ 3 < 4");
        wrongAt("fade 3 if hour + ^< 3");
        wrongAt("fade 3 if 3 + ^top < 3");
        wrongAt("fade 3 if top ^< 3");
        wrongAt("fade 3 if top ^+ 3 < 3");
        wrongAt("fade 3 if 3 < ^top");
        wrongAt("fade 3 if 3 < ^(hour)");
        wrongAt("fade 3 if (hour^) < 3");
        wrongAt("fade 3 if 3 < ^not 3");
        right("fade 3 if 3 < hour + 4 + ring", 1);
        right("fade 3 if 3 + 4 + 5 > hour", 1);
    }

    private static void blanks() {
        right("  fade  3  if  (  top  )  and  hour  +  3  <  4  ;  mend  0  ", 2);
        wrongAt("fade^\t3");
        wrongAt("fade 3^\n");
        wrongAt("fade 3 if hour^\u00a0< 3");
        wrongAt("fade 3 if 1 ^0 < 3");
        wrongAt("^fa de 3");
        wrongAt("fade 3 if ^t op");
    }

    private static void inPlace() {
        WakeTower x = told(FIVE);
        law(x, "fade 7;mend 8;drowse 9");
        law(x, "fade 6");
        due("FADES", x.person(0, 9), 6);
        due("MENDS of the one before", x.person(0, 10), 0);
        due("DROWSES of the one before", x.person(0, 11), 0);
        due("LINES", x.count(2), 1);
    }

    private static void wrongLaws() {
        WakeTower x = told(FIVE);
        wrongLaw(x, "fade 7;mend 101", 12);
        due("without a law as ahead", x.count(2), NONE);
        due("FADES without a text", x.person(0, 9), 5);
        law(x, "fade 6 if top;drowse 4");
        wrongLaw(x, "fade 7;mend 101", 12);
        wrongLaw(x, "fade 7;", 7);
        due("FADES of the law before", x.person(3, 9), 6);
        due("not of one below", x.person(0, 9), 0);
        due("DROWSES of it", x.person(0, 11), 4);
        due("LINES of it", x.count(2), 2);
    }

    // ---- what it says

    private static void untold() {
        WakeTower x = told(FIVE, "asleep 3;asleep 4");
        long[][] due = {{5, 0, 0}, {5, 0, 0}, {5, 0, 0}, {0, 10, 0}, {0, 10, 0}};
        for (int i = 0; i < 5; i++) {
            for (int what = 9; what < 12; what++) {
                due("person(" + i + ", " + what + ")", x.person(i, what), due[i][what - 9]);
            }
        }
        x.wake(4);
        due("one DOWN and awake mends", x.person(4, 10), 10);
        due("it fades not", x.person(4, 9), 0);
        due("LINES", x.count(2), NONE);
        WakeTower y = told("person weight 9 full 999;up 0 ring 0");
        y.seed(1);
        y.hours(7);
        due("DROWSES are HOURS awake", y.person(0, 11), 7);
        y.out(0);
        due("they are of one who came out", y.person(0, 11), 7);
        y.hours(1);
        due("none of one DOWN behind an hour", y.person(0, 11), 0);
    }

    private static void noLine() {
        WakeTower x = told(FIVE);
        due("law()", law(x, ""), 0);
        due("LINES: there is one", x.count(2), 0);
        for (int i = 0; i < 5; i++) {
            due("it fades, mends, drowses by none", x.person(i, 9) + x.person(i, 10) + x.person(i, 11), 0);
        }
        x.hours(60);
        due("STRENGTH stays", x.person(0, 2), 100);
        due("nobody sleeps", x.sleepers(), 0);
    }

    private static void sumOfAll() {
        WakeTower x = told(FIVE);
        law(x, "fade 100;".repeat(11) + "fade 100");
        due("12 LINES of 100", x.person(0, 9), 1200);
        x.hours(1);
        due("STRENGTH is 0 at least", x.person(4, 2), 0);
        WakeTower y = told(FIVE);
        law(y, "fade 1;mend 2;drowse 4;fade 8 if top;mend 16 if top;drowse 32 if top");
        due("FADES of the top", y.person(3, 9), 9);
        due("MENDS of the top", y.person(3, 10), 18);
        due("DROWSES of the top", y.person(3, 11), 36);
        due("FADES of another", y.person(0, 9), 1);
        due("MENDS of another", y.person(0, 10), 2);
        due("DROWSES of another", y.person(0, 11), 4);
    }

    private static void strict() {
        WakeTower x = told(FIVE);
        due("less", holds(x, "person < 3"), 7);
        due("more", holds(x, "person > 3"), 16);
        due("neither", holds(x, "not person < 3 and not person > 3"), 8);
        due("sums on both sides", holds(x, "person + 1 > 1 + 1"), 28);
        due("sums that are like", holds(x, "person + 2 < 2 + person"), 0);
        due("sums that are like", holds(x, "person + 2 > 2 + person"), 0);
    }

    private static void binding() {
        WakeTower x = told(FIVE);
        due("a or (b and c)", holds(x, "person < 1 or person > 2 and person < 4"), 9);
        due("(a and b) or c", holds(x, "person > 2 and person < 4 or person < 1"), 9);
        due("told by (", holds(x, "(person < 1 or person > 2) and person < 4"), 9);
        due("told by (", holds(x, "(person < 1 or person > 2) and person > 3"), 16);
        due("else", holds(x, "person < 1 or person > 2 and person > 3"), 17);
        due("not of one ATOM", holds(x, "not person < 2 and person < 4"), 12);
        due("not of one ATOM", holds(x, "not person < 2 or person < 1"), 29);
        due("not of all", holds(x, "not (person > 2 or person < 1)"), 6);
        due("not not", holds(x, "not not person > 2"), 24);
        due("three", holds(x, "person < 1 or person > 3 or ring > 1"), 25);
        due("three", holds(x, "person > 0 and person < 4 and ring < 2"), 6);
    }

    private static void ownNumbers() {
        WakeTower x = told(FIVE);
        due("person", holds(x, "person < 1"), 1);
        due("person", holds(x, "person > 3"), 16);
        due("weight", holds(x, "weight < 9"), 11);
        due("weight", holds(x, "weight > 8"), 20);
        due("strength", holds(x, "strength > 80"), 3);
        due("strength", holds(x, "strength > 79"), 7);
        x.hours(1);
        due("strength of now", holds(x, "strength > 79"), 3);
        due("strength of now", holds(x, "strength < 100 and strength > 98"), 1);
    }

    private static void ringAndBorne() {
        WakeTower x = told(FIVE, "person weight 1 full 9;up 4 ring 1 on a;asleep 2");
        due("ring", holds(x, "ring < 1"), 33);
        due("ring", holds(x, "ring > 1"), 8);
        due("borne", holds(x, "borne > 36"), 1);
        due("borne", holds(x, "borne > 37"), 0);
        due("borne of a sleeper and of one DOWN", holds(x, "borne < 1"), 60);
        x.out(3);
        x.out(4);
        due("the RING of one DOWN is 0", holds(x, "ring < 1"), 57);
        due("BORNE of one DOWN is 0", holds(x, "borne > 0"), 1);
    }

    private static void states() {
        WakeTower x = told(FIVE, "asleep 3;asleep 4");
        due("asleep", holds(x, "asleep"), 24);
        due("down", holds(x, "down"), 16);
        due("not asleep", holds(x, "not asleep"), 7);
        due("not down", holds(x, "not down"), 15);
        // 3 sleeps, and is ON 1 all the same
        due("top", holds(x, "top"), 12);
        due("not top", holds(x, "not top"), 19);
        x.out(3);
        due("top when nobody is ON it any more", holds(x, "top"), 6);
        x.out(1);
        x.out(2);
        due("top of one alone", holds(x, "top"), 1);
        x.out(0);
        due("who is DOWN is no top", holds(x, "top"), 0);
        due("down", holds(x, "down"), 31);
        WakeTower high = told(people(3, 9, 99) + "up 2 ring 0;up 1 ring 1 on c;up 0 ring 2 on b");
        due("the person 0 is the top", holds(high, "top"), 1);
    }

    private static void awakeAndHour() {
        WakeTower x = underLaw("", FIVE, "hour 22");
        due("hour 22", holds(x, "hour > 21 and hour < 23"), 31);
        due("awake 0", holds(x, "awake < 1"), 31);
        x = underLaw("", FIVE, "hour 22");
        x.hours(1);
        due("hour 23", holds(x, "hour > 22"), 31);
        due("awake 1", holds(x, "awake > 0"), 15);
        law(x, "");
        x.hours(1);
        due("hour 0", holds(x, "hour < 1"), 31);
        due("awake 2", holds(x, "awake > 1 and awake < 3"), 15);
        law(x, "");
        x.hours(60);
        x.hours(37);
        due("awake 99", holds(x, "awake > 98"), 15);
        law(x, "");
        x.hours(1);
        due("awake 99 at most", holds(x, "awake > 99"), 0);
    }

    private static void longSums() {
        WakeTower x = told(FIVE);
        // 96 times 999 are 95904, with all the 400 bytes there are
        String sum = "999" + "+999".repeat(95);
        String whole = "fade 1 if 1<" + sum;
        law(x, whole + " ".repeat(400 - whole.length()));
        due("a long sum", x.person(0, 9), 1);
        String half = "999" + "+999".repeat(46);
        due("long sums that are like", holds(x, half + "<" + half), 0);
        due("one more", holds(x, half + "<" + half + "+1"), 31);
        String ones = "1" + "+1".repeat(93);
        due("94 ones are not less than 94", holds(x, ones + "<94"), 0);
        due("94 ones are less than 95", holds(x, ones + "<95"), 31);
        String all = "top" + " and top".repeat(48);
        due("many in a row", holds(x, all), 12);
        due("many in a row", holds(x, all.replace("and", "or")), 12);
    }

    private static void deepLaws() {
        WakeTower x = told(FIVE);
        String left = "1+1<1+1+1 and (top or person<1 and 1<1+1 or ";
        due("deep at the right", holds(x, "((1<2 and (down or (down or (person<1 or top)))))"), 29);
        due("deep to the right", holds(x, left + left + left + left + left + left + "1+1+1>1+1+1+1))))))"), 13);
        due("deep at the left", holds(x, "((((((top) and 1<2) or down) and 2<3) or person<1) and 3<4)"), 29);
        due("nots and ( by turns", holds(x, "not (not (not (top and 1<2)))"), 19);
        due("nots, an even number", holds(x, "not not not not not not top"), 12);
        due("nots, an odd number", holds(x, "not not not not not top"), 19);
    }

    private static void asAhead() {
        WakeTower x = underLaw("fade 7 if awake > 0;mend 3 if strength < 100", FIVE);
        x.hours(1);
        due("not awake ahead of it", x.person(0, 2), 100);
        x.hours(1);
        due("awake 1, of STRENGTH 100", x.person(0, 2), 93);
        x.hours(1);
        due("awake 2, of STRENGTH 93", x.person(0, 2), 89);
        WakeTower y = underLaw("fade 9 if asleep;fade 2 if borne > 8;drowse 100 if person > 2", FIVE);
        y.hours(1);
        due("who falls asleep in it was not ahead of it", y.person(3, 2), 70);
        due("who bore more than 8", y.person(0, 2), 98);
        due("who bore 8", y.person(1, 2), 90);
        y.hours(1);
        due("asleep ahead of it", y.person(3, 2), 61);
        WakeTower z = underLaw("fade 4 if hour > 22", FIVE, "hour 22");
        z.hours(1);
        due("HOUR 22", z.person(0, 2), 100);
        z.hours(1);
        due("HOUR 23", z.person(0, 2), 96);
        z.hours(1);
        due("HOUR 0", z.person(0, 2), 96);
    }

    private static void asThen() {
        WakeTower x = underLaw("drowse 100 if awake > 0 and person > 2", FIVE);
        x.hours(1);
        due("awake 1 then", x.sleepers(), 8);
        WakeTower y = underLaw("fade 1;drowse 100 if strength < 70 and person > 2", FIVE);
        y.hours(1);
        due("STRENGTH 69 then", y.sleepers(), 8);
        WakeTower z = underLaw("drowse 100 if hour > 22 and person > 2", FIVE, "hour 22");
        z.hours(1);
        due("HOUR 22 yet", z.sleepers(), 0);
        z.hours(1);
        due("HOUR 23 then", z.sleepers(), 8);
    }
}
