/**
 * Boundary cases of what is seen, sentence by sentence: "==== 4", promises 40 to 45.
 * Each method has one sentence of the document, which stands in its part.
 */
public final class SightBoundsTest {
    private static final int LOW = Integer.MIN_VALUE;
    private static final int HIGH = Integer.MAX_VALUE;
    // on day d it is on a if b's care at first is 40 + d at most
    private static final String FALLING = "person a of 0 cares 40;person b of 1 cares 7;grows 0-house;";

    public static void main(String[] args) {
        seen();
        untell();
        later();
        counts();
        fits();
        sure();
        ask();
        Due.finish();
    }

    private static void seen() {
        aDay();
        aPersonOrTheBrush();
        itsNumber();
        thirtyAtMost();
        noPersons();
    }

    private static void untell() {
        isSoAlready();
        noneSuch();
    }

    private static void later() {
        soMuchLater();
        above100000();
        anotherNumber();
    }

    private static void counts() {
        toldAtKOrBefore();
        notUntoldAtKOrBefore();
        theSameTime();
        asKnownAtAnyK();
    }

    private static void fits() {
        asItWasTold();
        atFirstOnTheBrush();
        theLastOne();
        wasOrWasNot();
        behindSoManyDays();
        caresThatFit();
        allThatCounts();
        fitsWithoutPersons();
    }

    private static void sure() {
        theLeastAndTheGreatest();
        sureOfNone();
        sureAnotherWhat();
    }

    private static void ask() {
        fewestAtTheMost();
        askTheFirst();
        askOfNone();
        askAnotherWhat();
    }

    private static void aDay() {
        Due.part("==== 4, 40: a day (0 .. 9)");
        GreyHair x = Due.told(FALLING);
        for (int day = 0; day <= 9; day++) {
            Due.due("seen(" + day + ", 0, false)", x.seen(day, 0, false), day);
        }
        String before = Due.look(x);
        for (int day : new int[] {-1, 10, 11, LOW, HIGH}) {
            Due.refused(x, "seen(" + day + ", 0, true)", before, x.seen(day, 0, true), -1);
        }
    }

    private static void aPersonOrTheBrush() {
        Due.part("40: a person or -1 for the brush; none, doing nothing, if one can't be");
        GreyHair x = Due.told(Due.cares(1, 2, 3, 4, 5, 6));
        for (int person = -1; person <= 5; person++) {
            Due.due("seen(0, " + person + ", false)", x.seen(0, person, false), person + 1);
        }
        String before = Due.look(x);
        for (int person : new int[] {-2, 6, 7, LOW, HIGH}) {
            Due.refused(x, "seen(0, " + person + ", true)", before, x.seen(0, person, true), -1);
            Due.refused(x, "seen(0, " + person + ", false)", before, x.seen(0, person, false), -1);
        }
        x = Due.told(Due.cares(1, 2));
        Due.due("the last one", x.seen(0, 1, true), 0);
        Due.due("one behind him", x.seen(0, 2, true), -1);
    }

    private static void itsNumber() {
        Due.part("40: its number");
        GreyHair x = Due.told(FALLING);
        for (int i = 0; i < 30; i++) {
            Due.due("about(8)", x.about(8), i);
            Due.due("like ones have numbers of their own", x.seen(0, 0, true), i);
        }
        Due.due("about(8)", x.about(8), 30);
    }

    private static void thirtyAtMost() {
        Due.part("==== 4, 40: none, doing nothing, if there are 30");
        GreyHair x = Due.told(FALLING);
        for (int i = 0; i < 29; i++) {
            x.seen(0, 0, true);
        }
        Due.due("fits(0)", x.fits(0), 41);
        Due.due("the thirtieth", x.seen(0, 1, true), 29);
        Due.due("it counts", x.fits(0), 0);
        String before = Due.look(x);
        Due.refused(x, "one more", before, x.seen(0, 0, true), -1);
        Due.due("untell(29)", x.untell(29), true);
        Due.due("fits(0)", x.fits(0), 41);
        before = Due.look(x);
        Due.refused(x, "what is untold is seen, too", before, x.seen(0, 0, true), -1);
        Due.due("about(8)", x.about(8), 30);
    }

    private static void noPersons() {
        Due.part("40: none, doing nothing, if there are no persons");
        GreyHair x = new GreyHair();
        String before = Due.look(x);
        Due.refused(x, "seen(0, -1, true)", before, x.seen(0, -1, true), -1);
        Due.refused(x, "seen(0, -1, false)", before, x.seen(0, -1, false), -1);
        Due.refused(x, "seen(0, 0, true)", before, x.seen(0, 0, true), -1);
        x = Due.told(FALLING);
        x.seen(0, 0, true);
        x.family();
        Due.due("no persons again", x.seen(0, -1, true), -1);
        Due.due("about(8)", x.about(8), 0);
    }

    private static void isSoAlready() {
        Due.part("41: it is untold: true; false if it is so already");
        GreyHair x = Due.told(FALLING);
        x.seen(0, 0, true);
        x.seen(1, 0, true);
        Due.due("untell(1)", x.untell(1), true);
        Due.due("untell(1)", x.untell(1), false);
        x.later(5);
        Due.due("untell(1) later", x.untell(1), false);
        Due.due("it was untold at 0, not at 5", x.fits(0), 41);
        Due.due("untell(0)", x.untell(0), true);
        Due.due("untell(0)", x.untell(0), false);
    }

    private static void noneSuch() {
        Due.part("41: false if there is none such");
        GreyHair x = Due.told(FALLING);
        Due.due("untell(0) of nothing", x.untell(0), false);
        x.seen(0, 0, true);
        String before = Due.look(x);
        for (int seen : new int[] {-1, 1, 2, 29, 30, 31, LOW, HIGH}) {
            Due.refused(x, "untell(" + seen + ")", before, x.untell(seen) ? 1 : 0, 0);
        }
        for (int i = 1; i < 30; i++) {
            x.seen(0, 0, true);
        }
        Due.due("untell(30)", x.untell(30), false);
        Due.due("untell(29)", x.untell(29), true);
        Due.due("of a new one", new GreyHair().untell(0), false);
    }

    private static void soMuchLater() {
        Due.part("42: so much later (0 .. 1000): the time");
        GreyHair x = new GreyHair();
        Due.due("later(0)", x.later(0), 0);
        Due.due("later(1)", x.later(1), 1);
        Due.due("later(0)", x.later(0), 1);
        Due.due("later(999)", x.later(999), 1000);
        Due.due("later(1000)", x.later(1000), 2000);
        Due.due("about(9)", x.about(9), 2000);
    }

    private static void above100000() {
        Due.part("42: none, doing nothing, if it would be above 100,000");
        GreyHair x = new GreyHair();
        for (int i = 0; i < 99; i++) {
            x.later(1000);
        }
        x.later(1);
        Due.due("later(1000)", x.later(1000), -1);
        Due.due("about(9)", x.about(9), 99001);
        Due.due("later(999)", x.later(999), 100000);
        Due.due("later(0)", x.later(0), 100000);
        Due.due("later(1)", x.later(1), -1);
        Due.due("later(1000)", x.later(1000), -1);
        Due.due("about(9)", x.about(9), 100000);
        Due.tell(x, FALLING);
        x.seen(0, 1, true);
        Due.due("told at 100,000", x.fits(99999), 100);
        Due.due("told at 100,000", x.fits(100000), 59);
    }

    private static void anotherNumber() {
        Due.part("42: none, doing nothing, for another number");
        GreyHair x = Due.told(FALLING);
        x.later(7);
        String before = Due.look(x);
        for (int by : new int[] {-1, 1001, 1002, -7, -8, LOW, HIGH}) {
            Due.refused(x, "later(" + by + ")", before, x.later(by), -1);
        }
    }

    private static void toldAtKOrBefore() {
        Due.part("==== 4: that counts that was told at k or before");
        GreyHair x = Due.told(FALLING);
        x.seen(0, 1, true);
        Due.due("at 0", x.fits(0), 59);
        Due.due("before 0", x.fits(-1), 100);
        x.later(10);
        x.seen(9, 0, true);
        Due.due("fits(9)", x.fits(9), 59);
        Due.due("fits(10)", x.fits(10), 9);
        Due.due("fits(11), not come yet", x.fits(11), 9);
    }

    private static void notUntoldAtKOrBefore() {
        Due.part("==== 4: not untold at k or before");
        GreyHair x = Due.told(FALLING);
        x.seen(0, 1, true);
        x.later(10);
        x.untell(0);
        Due.due("fits(0)", x.fits(0), 59);
        Due.due("fits(9)", x.fits(9), 59);
        Due.due("fits(10)", x.fits(10), 100);
        Due.due("fits(11)", x.fits(11), 100);
        Due.due("sure(0, 9)", x.sure(0, 9), 41);
        Due.due("sure(0, 10)", x.sure(0, 10), 0);
    }

    private static void theSameTime() {
        Due.part("==== 4: untold at a later time or the same");
        GreyHair x = Due.told(FALLING);
        x.seen(0, 1, true);
        x.untell(0);
        Due.due("at time 0", x.fits(0), 100);
        x.later(3);
        x.seen(0, 1, true);
        Due.due("fits(3)", x.fits(3), 59);
        x.untell(1);
        Due.due("fits(2)", x.fits(2), 100);
        Due.due("fits(3)", x.fits(3), 100);
        Due.due("fits(4)", x.fits(4), 100);
    }

    private static void asKnownAtAnyK() {
        Due.part("==== 4: as known at any k");
        GreyHair x = Due.told(FALLING);
        x.seen(0, 1, true);
        Due.due("fits(LOW)", x.fits(LOW), 100);
        Due.due("fits(HIGH)", x.fits(HIGH), 59);
        Due.due("sure(0, LOW)", x.sure(0, LOW), 0);
        Due.due("sure(0, HIGH)", x.sure(0, HIGH), 41);
        Due.due("ask(1, LOW)", x.ask(1, LOW), 50);
        Due.due("ask(1, HIGH)", x.ask(1, HIGH), 50);
        x.untell(0);
        Due.due("fits(HIGH)", x.fits(HIGH), 100);
    }

    private static void asItWasTold() {
        Due.part("==== 4: of the family as it was told (nothing done, no news)");
        String text = "person a of 0 cares 40 news 100 of 20;person b of 1 cares 7 news 100 of 20;grows 0-house;";
        GreyHair x = Due.told(text);
        x.seen(0, 0, true);
        x.seen(9, 1, true);
        Due.due("fits(0) needs both", x.fits(0), 0);
        x.untell(1);
        Due.due("fits(0)", x.fits(0), 41);
        x.day();
        x.take(0, 9);
        x.take(1, 9);
        x.tell(0, 1);
        x.tell(1, 0);
        x.dye();
        Due.due("fits(0) behind acts", x.fits(0), 41);
        Due.due("ask(1, 0) behind acts", x.ask(1, 0), 41);
        GreyHair y = Due.told(text);
        y.day();
        y.tell(1, 0);
        y.take(1, 9);
        y.seen(9, 1, true);
        Due.due("first looked at behind acts", y.fits(0), 50);
        Due.due("sure(0, 0)", y.sure(0, 0), 50);
    }

    private static void atFirstOnTheBrush() {
        Due.part("==== 4: at first it lies on the brush for each care");
        GreyHair x = Due.told(Due.cares(50) + "worry care-has*99;");
        x.seen(0, 0, true);
        Due.due("day 0", x.fits(0), 99);
        x = Due.told(Due.cares(50) + "worry care-has*99;");
        x.seen(9, 0, true);
        Due.due("on each second day not", x.fits(0), 0);
        x = Due.told(Due.cares(50) + "worry (day=0)*care+has*9;");
        x.seen(0, 0, true);
        x.seen(9, 0, true);
        Due.due("kept by who has it", x.fits(0), 99);
        x = Due.told(Due.cares(50) + "worry has*9+(care=60);");
        x.seen(0, -1, true);
        Due.due("by one care alone, not by those behind it", x.fits(0), 99);
    }

    private static void theLastOne() {
        Due.part("==== 4: the last person's care at first, which is not known");
        for (int care : new int[] {0, 7, 99}) {
            GreyHair x = Due.told(FALLING.replace("cares 7", "cares " + care));
            x.seen(0, 0, true);
            Due.due("of a care told as " + care, x.fits(0), 41);
        }
        GreyHair x = Due.told("person b of 1 cares 7;person a of 0 cares 40;");
        x.seen(0, 1, true);
        Due.due("the last as told", x.fits(0), 92);
        x = Due.told(Due.cares(9));
        x.seen(0, 0, true);
        Due.due("one alone", x.fits(0), 99);
        x = Due.told(Due.cares(1, 2, 3, 4, 5, 6));
        x.seen(0, 4, true);
        Due.due("the sixth", x.fits(0), 6);
        x.seen(0, 5, true);
        Due.due("both can't be", x.fits(0), 0);
    }

    private static void wasOrWasNot() {
        Due.part("==== 4: that the hair was on a person (or on the brush), or was not");
        String text = Due.cares(40, 7) + "ease 60;";
        int[][] wanted = {{-1, 60}, {0, 0}, {1, 40}};
        for (int[] w : wanted) {
            GreyHair x = Due.told(text);
            x.seen(0, w[0], true);
            Due.due("was on " + w[0], x.fits(0), w[1]);
            x = Due.told(text);
            x.seen(0, w[0], false);
            Due.due("was not on " + w[0], x.fits(0), 100 - w[1]);
            x.seen(0, w[0], true);
            Due.due("was and was not on " + w[0], x.fits(0), 0);
        }
    }

    private static void behindSoManyDays() {
        Due.part("==== 4: on a day (0 .. 9; behind so many days)");
        for (int day = 0; day <= 9; day++) {
            GreyHair x = Due.told(FALLING);
            x.seen(day, 0, true);
            Due.due("day " + day, x.fits(0), 41 + day);
            Due.due("sure(1, 0)", x.sure(1, 0), 40 + day);
            x = Due.told(FALLING);
            x.seen(day, 1, true);
            Due.due("day " + day, x.fits(0), 59 - day);
            Due.due("sure(0, 0)", x.sure(0, 0), 41 + day);
        }
    }

    private static void caresThatFit() {
        Due.part("==== 4: cares (0 .. 99) by which all that counts is so");
        GreyHair x = Due.told(Due.cares(98, 5));
        Due.due("all", x.fits(0), 100);
        x.seen(0, 1, true);
        Due.due("99 alone", x.fits(0), 1);
        Due.due("sure(0, 0)", x.sure(0, 0), 99);
        Due.due("sure(1, 0)", x.sure(1, 0), 99);
        x = Due.told(Due.cares(99, 5));
        x.seen(0, 1, true);
        Due.due("none", x.fits(0), 0);
        x = Due.told(Due.cares(5));
        x.seen(0, -1, true);
        Due.due("0 alone", x.fits(0), 1);
        Due.due("sure(0, 0)", x.sure(0, 0), 0);
        Due.due("sure(1, 0)", x.sure(1, 0), 0);
        x = Due.told(Due.cares(5) + "ease 99;");
        x.seen(0, 0, false);
        Due.due("all but 99", x.fits(0), 99);
        Due.due("sure(1, 0)", x.sure(1, 0), 98);
        x = Due.told(Due.cares(5) + "worry care%2;");
        x.seen(0, 0, true);
        Due.due("each second one", x.fits(0), 50);
        Due.due("sure(0, 0)", x.sure(0, 0), 1);
        Due.due("sure(1, 0)", x.sure(1, 0), 99);
    }

    private static void allThatCounts() {
        Due.part("==== 4: all that counts");
        GreyHair x = Due.told(FALLING);
        for (int i = 0; i < 28; i++) {
            x.seen(i % 10, -1, false);
        }
        Due.due("fits(0)", x.fits(0), 100);
        x.seen(0, 1, true);
        Due.due("fits(0)", x.fits(0), 59);
        x.seen(1, 0, true);
        Due.due("fits(0)", x.fits(0), 1);
        Due.due("sure(0, 0)", x.sure(0, 0), 41);
        x.untell(0);
        Due.due("fits(0)", x.fits(0), 1);
    }

    private static void fitsWithoutPersons() {
        Due.part("43: how many (0 without persons)");
        GreyHair x = new GreyHair();
        Due.due("fits(0)", x.fits(0), 0);
        Due.due("fits(LOW)", x.fits(LOW), 0);
        Due.due("fits(HIGH)", x.fits(HIGH), 0);
        Due.due("sure(0, 0)", x.sure(0, 0), -1);
        Due.due("sure(1, 0)", x.sure(1, 0), -1);
        Due.due("ask(0, 0)", x.ask(0, 0), -1);
        Due.due("ask(1, 0)", x.ask(1, 0), -1);
        Due.tell(x, FALLING);
        Due.due("with persons", x.fits(0), 100);
        x.family();
        Due.due("without them again", x.fits(0), 0);
        Due.due("sure(0, 0)", x.sure(0, 0), -1);
    }

    private static void theLeastAndTheGreatest() {
        Due.part("44: the least of fits (what 0), the greatest (1)");
        GreyHair x = Due.told(FALLING);
        Due.due("of all", x.sure(0, 0), 0);
        Due.due("of all", x.sure(1, 0), 99);
        x.later(1);
        x.seen(0, 1, true);
        x.later(1);
        x.seen(9, 0, true);
        int[][] wanted = {{0, 0, 99}, {1, 41, 99}, {2, 41, 49}};
        for (int[] w : wanted) {
            Due.due("sure(0, " + w[0] + ")", x.sure(0, w[0]), w[1]);
            Due.due("sure(1, " + w[0] + ")", x.sure(1, w[0]), w[2]);
        }
    }

    private static void sureOfNone() {
        Due.part("44: none if none fits");
        GreyHair x = Due.told(FALLING);
        x.later(1);
        x.seen(0, -1, true);
        Due.due("sure(0, 1)", x.sure(0, 1), -1);
        Due.due("sure(1, 1)", x.sure(1, 1), -1);
        Due.due("sure(1, 0)", x.sure(1, 0), 99);
    }

    private static void sureAnotherWhat() {
        Due.part("44: none for another what");
        GreyHair x = Due.told(FALLING);
        for (int what : new int[] {-1, 2, LOW, HIGH}) {
            Due.due("sure(" + what + ", 0)", x.sure(what, 0), -1);
        }
    }

    private static void ask(String text, int day, int left) {
        GreyHair x = Due.told(text);
        Due.due("ask(0, 0) of " + text, x.ask(0, 0), day);
        Due.due("ask(1, 0) of " + text, x.ask(1, 0), left);
    }

    private static void fewestAtTheMost() {
        Due.part("45: the day on which to see where it was would leave the fewest of these at the most");
        for (int day = 0; day <= 9; day++) {
            ask(FALLING.replace("cares 40", "cares " + (49 - day)), day, 50);
        }
        ask(FALLING.replace("cares 40", "cares 39"), 9, 51);
        ask(FALLING.replace("cares 40", "cares 50"), 0, 51);
        // three parts on day 0: the brush for 30 cares, a for none, b for 70
        ask(Due.cares(20, 0) + "ease 30;", 0, 70);
        ask(Due.cares(20, 0) + "ease 80;", 0, 80);
        GreyHair x = Due.told(FALLING);
        x.later(1);
        x.seen(9, 0, true);
        Due.due("as known at 0", x.ask(0, 0), 9);
        Due.due("as known at 0", x.ask(1, 0), 50);
        // 0 .. 49: day d leaves 41 + d
        Due.due("as known at 1", x.ask(0, 1), 0);
        Due.due("as known at 1", x.ask(1, 1), 41);
    }

    private static void askTheFirst() {
        Due.part("45: of like ones the first");
        ask(Due.cares(49, 0), 0, 50);
        ask(Due.cares(5), 0, 99);
        ask(Due.cares(5, 5, 5, 5, 5, 5), 0, 94);
        ask("person a of 0 cares 49;person b of 1 cares 0;worry care*(day>3 or house=0);", 4, 50);
        GreyHair x = Due.told(FALLING);
        x.seen(0, 1, true);
        x.seen(1, 0, true);
        Due.due("one is left", x.ask(0, 0), 0);
        Due.due("one is left", x.ask(1, 0), 1);
    }

    private static void askOfNone() {
        Due.part("45: none if none fits");
        GreyHair x = Due.told(FALLING);
        x.later(1);
        x.seen(0, -1, true);
        Due.due("ask(0, 1)", x.ask(0, 1), -1);
        Due.due("ask(1, 1)", x.ask(1, 1), -1);
        Due.due("ask(0, 0)", x.ask(0, 0), 9);
    }

    private static void askAnotherWhat() {
        Due.part("45: none for another what");
        GreyHair x = Due.told(FALLING);
        for (int what : new int[] {-1, 2, LOW, HIGH}) {
            Due.due("ask(" + what + ", 0)", x.ask(what, 0), -1);
        }
    }
}
