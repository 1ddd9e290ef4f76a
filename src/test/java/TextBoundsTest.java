/**
 * Boundary cases of the text, sentence by sentence: "Terms" up to the FAULTS, and promises 1 to 5.
 * Each method has one sentence of the document, which stands in its part.
 */
public final class TextBoundsTest {
    private static final int LOW = Integer.MIN_VALUE;
    private static final int HIGH = Integer.MAX_VALUE;
    private static final String SIGNS = ";()<>=+-*/%";
    private static final String ALL_LINES = "person a of 1 cares 9 news 40 of 7;person b of 0 cares 8;knows a b;"
            + "worry care+has;grows 1-has;ease 5;draw 6;";

    public static void main(String[] args) {
        newObject();
        feeding();
        ending();
        family();
        faultAnswers();
        tokens();
        sorts();
        units();
        within();
        faultPlaces();
        Due.finish();
    }

    private static void newObject() {
        anEmptyFamily();
    }

    private static void feeding() {
        twentyBytesCome();
        theHighestFirst();
        howManyThereAre();
        moreThan1600();
        nothingComes();
        aTextOf1600Bytes();
    }

    private static void ending() {
        theFirstBytes();
        notSoMany();
        belowZero();
    }

    private static void family() {
        emptyThen();
        allAsTold();
        notAsToldBefore();
        manyOneAfterAnother();
        dayZeroAndNotDyed();
        noActsAreKept();
        nothingIsSeen();
        nothingLiesThere();
        boxesAreEmpty();
        theTimeStays();
        howManyPersons();
        allStays();
    }

    private static void faultAnswers() {
        ofTheLatest();
        anotherWhat();
    }

    private static void tokens() {
        lettersOfWords();
        eightAtMost();
        oneToFourDigits();
        everyByte();
        blanksPartThemOrNot();
        asLongAsCanBe();
        noLetterBehindN();
        noNames();
    }

    private static void sorts() {
        sixPersons();
        houses();
        caresOfATell();
        newsOfATell();
        newsNotTold();
        fourWithNews();
        twelveKnows();
        anotherOne();
        toldAhead();
        eachTwoOnce();
        numberedAsTold();
        easeTold();
        drawTold();
        onceEach();
    }

    private static void units() {
        thirtyInOne();
        sixtyInAll();
        unitTooMany();
        bracketsAreUnits();
        longestFormula();
    }

    private static void within() {
        unitWithinSix();
        oneBehindNotWithinSix();
        bothTogether();
        sideBySide();
        farTooMany();
    }

    private static void faultPlaces() {
        theFirstByItsPlace();
        theEnd();
        theLeastAtOnePlace();
        noToken();
        cannotStandThere();
        aSecondTime();
        aNameToldAlready();
        aNumberThatCannotBe();
        aNameThatNobodyHas();
        oneRelationAtMost();
    }

    private static void fault(String text, int code, int place) {
        GreyHair x = new GreyHair();
        Due.due("family() of " + text, Due.tell(x, text), -1);
        Due.due("fault(0) of " + text, x.fault(0), code);
        Due.due("fault(1) of " + text, x.fault(1), place);
    }

    private static GreyHair fine(String text, int persons) {
        GreyHair x = new GreyHair();
        Due.due("family() of " + text, Due.tell(x, text), persons);
        Due.due("fault(0) of " + text, x.fault(0), 0);
        Due.due("fault(1) of " + text, x.fault(1), -1);
        return x;
    }

    private static void anEmptyFamily() {
        Due.part("1: an empty family");
        GreyHair x = new GreyHair();
        GreyHair y = new GreyHair();
        Due.due("family() of nothing", y.family(), 0);
        Due.same("a new object", Due.look(x), Due.look(y));
        Due.same("a new object", Due.look(x), "0 0 1 0 0 0 0 0 0 0 0 0 0 | -1 0 -1 | | 0");
        Due.due("person(0, 0)", x.person(0, 0), -1);
        for (int box = 0; box < 3; box++) {
            Due.due("back(" + box + ")", x.back(box), -1);
        }
    }

    private static void twentyBytesCome() {
        Due.part("2: twenty bytes come behind those on the tape");
        for (int kept = 0; kept <= 20; kept++) {
            GreyHair x = new GreyHair();
            x.feed(0x20202020, 0x20202020, 0x20202020, 0x20202020, 0x20202020);
            x.end(kept);
            Due.due("feed behind " + kept, x.feed(0x24202020, 0, 0, 0, 0), kept + 20);
            Due.due("family()", x.family(), -1);
            Due.due("fault(1)", x.fault(1), kept);
        }
    }

    private static void theHighestFirst() {
        Due.part("2: of each number the highest first");
        int[] strange = {'$', 0, 127, 128, 255};
        for (int place = 0; place < 20; place++) {
            for (int sign : strange) {
                int[] n = {0x20202020, 0x20202020, 0x20202020, 0x20202020, 0x20202020};
                int shift = 24 - place % 4 * 8;
                n[place / 4] = n[place / 4] & ~(255 << shift) | sign << shift;
                GreyHair x = new GreyHair();
                x.feed(n[0], n[1], n[2], n[3], n[4]);
                Due.due("family() with " + sign + " at " + place, x.family(), -1);
                Due.due("fault(0)", x.fault(0), 1);
                Due.due("fault(1)", x.fault(1), place);
            }
        }
    }

    private static void howManyThereAre() {
        Due.part("2: how many there are");
        GreyHair x = new GreyHair();
        for (int i = 1; i <= 80; i++) {
            Due.due("feed " + i, x.feed(-1, LOW, HIGH, 0, 1), 20 * i);
            Due.due("about(10)", x.about(10), 20 * i);
        }
    }

    private static GreyHair full() {
        GreyHair x = new GreyHair();
        for (int i = 0; i < 80; i++) {
            x.feed(0x20202020, 0x20202020, 0x20202020, 0x20202020, 0x20202020);
        }
        return x;
    }

    private static void moreThan1600() {
        Due.part("2: none if there would be more than 1,600");
        GreyHair x = full();
        Due.due("feed behind 1600", x.feed(0, 0, 0, 0, 0), -1);
        for (int length = 1599; length >= 1581; length--) {
            x.end(length);
            Due.due("feed behind " + length, x.feed(0, 0, 0, 0, 0), -1);
            Due.due("about(10)", x.about(10), length);
        }
        x.end(1580);
        Due.due("feed behind 1580", x.feed(0, 0, 0, 0, 0), 1600);
    }

    private static void nothingComes() {
        Due.part("2: none, and nothing comes");
        GreyHair x = full();
        x.end(1590);
        String before = Due.look(x);
        Due.refused(x, "feed", before, x.feed(-1, -1, -1, -1, -1), -1);
        Due.due("the tape is blank as before", x.family(), 0);
    }

    private static void aTextOf1600Bytes() {
        Due.part("Terms: a text of at most 1,600 bytes");
        String text = ALL_LINES + " ".repeat(1593 - ALL_LINES.length()) + "knows a";
        fault(text, 2, 1600);
        text = ALL_LINES + " ".repeat(1590 - ALL_LINES.length()) + "knows b a;";
        GreyHair x = fine(text, 2);
        Due.due("the last line counts", x.about(1), 2);
        fault(" ".repeat(1594) + "ease 1", 2, 1600);
        fault(" ".repeat(1593) + "ease 12", 2, 1600);
        fault(" ".repeat(1599) + "+", 2, 1599);
        fault(" ".repeat(1599) + "$", 1, 1599);
        Due.put(x, text);
        Due.due("one byte more", x.end(1601), -1);
        x.end(1599);
        Due.due("one byte less", x.family(), -1);
        Due.due("fault(1)", x.fault(1), 1599);
    }

    private static void theFirstBytes() {
        Due.part("3: the tape has its first n bytes: n");
        GreyHair x = full();
        Due.due("all of it", x.end(1600), 1600);
        Due.due("about(10)", x.about(10), 1600);
        Due.due("one less", x.end(1599), 1599);
        Due.due("about(10)", x.about(10), 1599);
        Due.due("one", x.end(1), 1);
        Due.due("about(10)", x.about(10), 1);
        Due.due("nothing", x.end(0), 0);
        Due.due("about(10)", x.about(10), 0);
        Due.due("nothing of nothing", x.end(0), 0);
        Due.put(x, "ease 123;");
        x.end(6);
        x.feed(0x373B2020, 0x20202020, 0x20202020, 0x20202020, 0x20202020);
        Due.due("family()", x.family(), 0);
        Due.due("the first six and what came behind", x.about(2), 17);
    }

    private static void notSoMany() {
        Due.part("3: none, doing nothing, if it has not so many");
        GreyHair x = new GreyHair();
        Due.due("end(1) of nothing", x.end(1), -1);
        x.feed(0, 0, 0, 0, 0);
        String before = Due.look(x);
        for (int n : new int[] {21, 22, 1600, 1601, HIGH}) {
            Due.refused(x, "end(" + n + ") of 20", before, x.end(n), -1);
        }
        x.end(7);
        Due.due("what was cut is gone", x.end(8), -1);
        Due.due("about(10)", x.about(10), 7);
    }

    private static void belowZero() {
        Due.part("3: none, doing nothing, if n is below 0");
        GreyHair x = new GreyHair();
        Due.due("end(-1) of nothing", x.end(-1), -1);
        Due.due("about(10)", x.about(10), 0);
        x.feed(0, 0, 0, 0, 0);
        String before = Due.look(x);
        for (int n : new int[] {-1, -2, -20, LOW}) {
            Due.refused(x, "end(" + n + ") of 20", before, x.end(n), -1);
        }
    }

    private static void emptyThen() {
        Due.part("4: the tape (empty then)");
        GreyHair x = fine(ALL_LINES, 2);
        Due.due("about(10)", x.about(10), 0);
        Due.due("end(1)", x.end(1), -1);
        Due.due("family() once more", x.family(), 0);
        Due.due("nobody is there", x.about(0), 0);
        Due.tell(x, "$" + ALL_LINES);
        Due.due("about(10) behind a fault", x.about(10), 0);
        Due.due("end(1) behind a fault", x.end(1), -1);
        Due.due("feed behind a fault", x.feed(0x20202020, 0x20202020, 0x20202020, 0x20202020, 0x20202020), 20);
        Due.due("family()", x.family(), 0);
    }

    private static void allAsTold() {
        Due.part("4: all as told");
        GreyHair x = fine(ALL_LINES, 2);
        String told = Due.look(x);
        Due.same("as told", told,
                "2 1 5 0 0 6 0 0 0 0 0 4 0 | 0 0 -1 | 1 9 10 2 0 40 7 | 0 8 8 0 1 0 0 | | 100");
        x.day();
        x.take(1, 9);
        x.tell(1, 0);
        x.forget(0, 1);
        x.pluck();
        Due.due("family()", Due.tell(x, ALL_LINES), 2);
        Due.same("as told anew", Due.look(x), told);
    }

    private static void notAsToldBefore() {
        Due.part("4: all as told, nothing of what was told before");
        GreyHair x = fine(ALL_LINES, 2);
        String bare = Due.look(Due.told(Due.cares(3, 4, 5)));
        for (int i = 0; i < 3; i++) {
            Due.due("family()", Due.tell(x, Due.cares(3, 4, 5)), 3);
            Due.same("all", Due.look(x), bare);
            Due.due("cares do not grow", x.cares(0, 9), 3);
            x.day();
            Due.due("no draw", x.about(5), 0);
            Due.due("family()", Due.tell(x, ALL_LINES), 2);
            Due.due("family() with a fault", Due.tell(x, ALL_LINES + "person c of 0 cares 7 news 5 of 5;$"), -1);
        }
    }

    private static void manyOneAfterAnother() {
        Due.part("4: all as told, however many were told before");
        GreyHair x = new GreyHair();
        String six = persons(6, "").replace("cares 0", "cares 50");
        String two = Due.cares(3, 4);
        for (int i = 1; i <= 4; i++) {
            Due.due("six with twelve knows", Due.tell(x, six + pairs(12, "abcdef")), 6);
            Due.due("four with news", Due.tell(x, persons(4, " news 1 of 1")), 4);
            Due.due("60 units", Due.tell(x, two + "worry " + sum(30) + ";grows " + sum(30) + ";"), 2);
            Due.due("about(11)", x.about(11), 60);
            Due.due("six with cares", Due.tell(x, six), 6);
            Due.due("six with cares", Due.tell(x, six), 6);
            Due.due("two", Due.tell(x, two + "worry care*" + i + ";grows " + i + "-1;ease " + i + ";draw " + i + ";"), 2);
            Due.due("by this worry", x.person(1, 2), 4 * i);
            Due.due("by this growth", x.cares(1, 1), 3 + i);
            Due.due("cares of two alone", x.burden(0), 7);
            Due.due("about(2)", x.about(2), i);
            Due.due("about(5)", x.about(5), i);
            Due.due("about(11)", x.about(11), 4);
            Due.due("nobody had it ahead of that", Due.tell(x, two + "worry has*9;"), 2);
            Due.due("hair()", x.hair(), -1);
        }
    }

    private static void dayZeroAndNotDyed() {
        Due.part("4: day 0, not dyed");
        GreyHair x = fine(ALL_LINES, 2);
        x.day();
        x.dye();
        Due.due("about(3)", x.about(3), 1);
        Due.due("about(4)", x.about(4), 1);
        Due.tell(x, ALL_LINES);
        Due.due("about(3)", x.about(3), 0);
        Due.due("about(4)", x.about(4), 0);
    }

    private static void noActsAreKept() {
        Due.part("4: no acts are kept");
        GreyHair x = fine(ALL_LINES, 2);
        x.day();
        x.day();
        x.undo();
        Due.tell(x, ALL_LINES);
        Due.due("about(6)", x.about(6), 0);
        Due.due("about(7)", x.about(7), 0);
        Due.due("undo()", x.undo(), false);
        Due.due("redo()", x.redo(), false);
        Due.due("about(4)", x.about(4), 0);
    }

    private static void nothingIsSeen() {
        Due.part("4: nothing is seen");
        GreyHair x = fine(ALL_LINES, 2);
        x.seen(0, 0, true);
        x.seen(1, -1, true);
        Due.due("fits(0)", x.fits(0), 0);
        Due.tell(x, ALL_LINES);
        Due.due("about(8)", x.about(8), 0);
        Due.due("fits(0)", x.fits(0), 100);
        Due.due("untell(0)", x.untell(0), false);
        Due.due("numbers begin anew", x.seen(0, 0, true), 0);
        // a worries 9 and, as b's worry is his care alone, has it if that is 9 at most and he 5 at least
        Due.due("by the family as told now", x.fits(0), 10);
        Due.tell(x, Due.cares(0));
        x.seen(0, 0, true);
        Due.due("by the family as told now", x.fits(0), 99);
    }

    private static void nothingLiesThere() {
        Due.part("4: nothing lies there");
        GreyHair x = fine(ALL_LINES, 2);
        x.rank();
        Due.lie(x, 0, 1);
        Due.tell(x, ALL_LINES);
        Due.lie(x);
        Due.due("lies(0)", x.lies(0), -2);
    }

    private static void boxesAreEmpty() {
        Due.part("4: boxes are empty then");
        GreyHair x = fine(ALL_LINES, 2);
        for (int box = 0; box < 3; box++) {
            Due.due("image(" + box + ")", x.image(box), 0);
        }
        Due.tell(x, ALL_LINES);
        for (int box = 0; box < 3; box++) {
            Due.due("back(" + box + ")", x.back(box), -1);
        }
    }

    private static void theTimeStays() {
        Due.part("4: the time stays");
        GreyHair x = new GreyHair();
        x.later(1000);
        x.later(17);
        Due.due("family()", x.family(), 0);
        Due.due("about(9)", x.about(9), 1017);
        Due.tell(x, ALL_LINES);
        Due.due("about(9)", x.about(9), 1017);
        x.seen(0, -1, true);
        Due.due("told at this time", x.fits(1016), 100);
        // on the brush: a's 9 are as much as ease
        Due.due("told at this time", x.fits(1017), 0);
    }

    private static void howManyPersons() {
        Due.part("4: how many persons");
        for (int persons = 0; persons <= 6; persons++) {
            fine(Due.cares(new int[persons]), persons);
        }
    }

    private static void allStays() {
        Due.part("4: none: a fault (all stays)");
        GreyHair x = fine(ALL_LINES, 2);
        x.later(3);
        x.seen(0, 0, true);
        x.day();
        x.day();
        x.undo();
        x.dye();
        x.image(1);
        x.rank();
        String before = withoutFault(Due.look(x));
        String[] faulty = {"$", "person", "person c of 0 cares 7;knows c d;", "worry 5;grows 5;ease 77;draw 88;x",
            ALL_LINES + "ease"};
        for (String text : faulty) {
            Due.due("family()", Due.tell(x, text), -1);
            Due.same("all behind a fault", withoutFault(Due.look(x)), before);
        }
        Due.due("the next day", x.will(1), 0);
        Due.due("the box", x.back(1), 1);
        Due.due("about(3)", x.about(3), 1);
    }

    private static String withoutFault(String look) {
        return look.replaceFirst("\\| (-?\\d+) -?\\d+ -?\\d+ \\|", "| $1 |");
    }

    private static void ofTheLatest() {
        Due.part("5: of the latest family() its fault (0), its place (none)");
        GreyHair x = new GreyHair();
        Due.due("fault(0) ahead of any", x.fault(0), 0);
        Due.due("fault(1) ahead of any", x.fault(1), -1);
        Due.tell(x, "  $");
        Due.due("fault(0)", x.fault(0), 1);
        Due.due("fault(1)", x.fault(1), 2);
        Due.put(x, "ease 1000");
        Due.due("fault(0) ahead of the next", x.fault(0), 1);
        Due.due("fault(1) ahead of the next", x.fault(1), 2);
        x.family();
        Due.due("fault(0)", x.fault(0), 4);
        Due.due("fault(1)", x.fault(1), 5);
        x.family();
        Due.due("fault(0) without one", x.fault(0), 0);
        Due.due("fault(1) without one", x.fault(1), -1);
    }

    private static void anotherWhat() {
        Due.part("5: none for another what");
        GreyHair x = new GreyHair();
        Due.tell(x, "$");
        for (int what : new int[] {-1, 2, 3, LOW, HIGH}) {
            Due.due("fault(" + what + ")", x.fault(what), -1);
        }
    }

    private static void lettersOfWords() {
        Due.part("Terms: words (a .. z)");
        for (char c = 'a'; c <= 'z'; c++) {
            fine("person " + c + " of 0 cares 1;", 1);
        }
        for (char c : new char[] {'`', '{', 'A', 'Z', '@', '[', '_'}) {
            fault("person " + c + " of 0 cares 1;", 1, 7);
            fault("person a" + c + " of 0 cares 1;", 1, 8);
        }
    }

    private static void eightAtMost() {
        Due.part("Terms: words (8 at most)");
        for (int length = 1; length <= 8; length++) {
            fine("person " + "z".repeat(length) + " of 0 cares 1;", 1);
        }
        for (int length = 9; length <= 20; length++) {
            fault("person " + "z".repeat(length) + " of 0 cares 1;", 1, 7);
        }
        fault("worry aaperson;", 2, 6);
        fault("aaaperson", 1, 0);
        fault("aaaaaaaaperson", 1, 0);
        // that the first letter counts as the last one does
        GreyHair x = fine("person abbbbbbb of 0 cares 1;person bbbbbbbb of 0 cares 2;person bbbbbbba of 1 cares 3;"
                + "knows bbbbbbba abbbbbbb;", 3);
        Due.due("knows(0, 0)", x.knows(0, 0), 2);
        Due.due("knows(0, 1)", x.knows(0, 1), 0);
    }

    private static void oneToFourDigits() {
        Due.part("Terms: N (1 to 4 digits)");
        for (int n = 0; n <= 9; n++) {
            Due.due("ease " + n, fine("ease " + n + ";", 0).about(2), n);
        }
        Due.due("two digits", fine("ease 10;", 0).about(2), 10);
        Due.due("three digits", fine("ease 987;", 0).about(2), 987);
        Due.due("four digits", fine("ease 0987;", 0).about(2), 987);
        Due.due("9999", fine("person a of 0 cares 0;worry 9999-9000;", 1).person(0, 2), 999);
        fault("ease 00987;", 1, 5);
        fault("worry 10000;", 1, 6);
        fault("worry " + "9".repeat(30) + ";", 1, 6);
        fault("worry 4294967297;", 1, 6);
        fault("ease :;", 1, 5);
        fault("ease 1:;", 1, 6);
    }

    private static void everyByte() {
        Due.part("Terms: tokens: words, N, signs; blanks (32, 10)");
        for (int b = 0; b < 256; b++) {
            char c = (char) b;
            boolean blank = b == 32 || b == 10;
            boolean letter = b >= 'a' && b <= 'z';
            boolean digit = b >= '0' && b <= '9';
            boolean sign = SIGNS.indexOf(c) >= 0;
            if (blank) {
                fine("" + c, 0);
                fine("ease" + c + "5" + c + ";" + c, 0);
            } else if (letter) {
                fault("" + c, 2, 0);
                fault("ease" + c + "5;", 2, 0);
                fault("ease 5" + c + ";", 1, 5);
            } else if (digit) {
                fault("" + c, 2, 0);
                Due.due("ease", fine("ease" + c + "5;", 0).about(2), (b - '0') * 10 + 5);
                Due.due("ease", fine("ease 5" + c + ";", 0).about(2), 50 + b - '0');
            } else {
                fault("" + c, sign ? 2 : 1, 0);
                fault("ease" + c + "5;", sign ? 2 : 1, 4);
                fault("ease 5" + c + ";", sign ? 2 : 1, c == ';' ? 7 : 6);
            }
        }
    }

    private static void blanksPartThemOrNot() {
        Due.part("Terms: blanks part them or not");
        String dense = "person a of1 cares9;person b of0 cares8 news0 of20;knows a b;"
                + "worry(care+1)*2>3 and4;grows not(has);ease5;draw6;";
        String sparse = "\n person\na \n of  1\n\ncares 9 ;person b of 0 cares 8 news 0 of 20 ; knows\na\nb\n;"
                + "worry ( care + 1 ) * 2 > 3 and 4 ; grows not ( has ) ;\nease 5\n; draw 6 ;\n\n ";
        Due.same("with blanks or without", Due.look(fine(sparse, 2)), Due.look(fine(dense, 2)));
        fine(" ", 0);
        fine("\n", 0);
        fine(" \n\n  ", 0);
    }

    private static void asLongAsCanBe() {
        Due.part("Terms: each is as long as can be");
        fault("easey 1;", 2, 0);
        fault("worry carecare;", 2, 6);
        fault("worry notnot 1;", 2, 6);
        fault("worry not has and notcare;", 2, 18);
        fault("person a of0cares1;", 1, 11);
        fault("worry 1 2;", 2, 8);
        Due.due("12 is one N", fine("person a of 0 cares 0;worry 12;", 1).about(11), 1);
        Due.due("cares is not care", fine("person cared of 0 cares 1;person car of 0 cares 1;", 2).about(0), 2);
    }

    private static void noLetterBehindN() {
        Due.part("Terms: no letter directly behind an N");
        fault("ease 1a;", 1, 5);
        fault("ease 1z;", 1, 5);
        fault("ease 1234a;", 1, 5);
        fault("worry 1or 2;", 1, 6);
        fault("person a of 0cares 5;", 1, 12);
        fine("worry 1 or 2;", 0);
        fine("worry 1\nor 2;", 0);
        fine("worry 1 or2;", 0);
        fault("ease 1", 2, 6);
        // what is cut from the tape is no letter behind it
        GreyHair x = new GreyHair();
        Due.put(x, "ease 1a");
        x.end(6);
        x.family();
        Due.due("fault(0)", x.fault(0), 2);
        Due.due("fault(1)", x.fault(1), 6);
    }

    private static void noNames() {
        Due.part("Terms: words that stand for themselves here are no names");
        String two = "person a of 0 cares 1;person b of 0 cares 1;";
        for (String word : Model.WORDS) {
            fault("person " + word + " of 0 cares 1;", 2, 7);
            fault(two + "knows " + word + " a;", 2, two.length() + 6);
            fault(two + "knows a " + word + ";", 2, two.length() + 8);
            String near = word.length() < 8 ? word + "x" : word.substring(1);
            fine("person " + near + " of 0 cares 1;", 1);
        }
        for (String word : new String[] {"hair", "line", "family", "e", "n", "name", "sum", "term", "unit", "both", "one",
            "tell", "take", "brush", "seed", "told", "if"}) {
            fine("person " + word + " of 0 cares 1;", 1);
        }
    }

    private static String persons(int count, String behind) {
        return Due.cares(new int[count]).replace(";", behind + ";");
    }

    private static void sixPersons() {
        Due.part("Terms: at most 6 persons");
        String six = persons(6, "");
        fine(six, 6);
        fault(six + "person g of 0 cares 0;", 2, six.length());
        fault(six + "\n person g", 2, six.length() + 2);
        fault(six + "person a", 2, six.length());
        fault(six + "person $", 2, six.length());
    }

    private static void houses() {
        Due.part("Terms: of a house 0 or 1");
        Due.due("0", fine("person a of 0 cares 5;", 1).person(0, 0), 0);
        Due.due("1", fine("person a of 1 cares 5;", 1).person(0, 0), 1);
        fault("person a of 2 cares 5;", 4, 12);
        fault("person a of 10 cares 5;", 4, 12);
        fault("person a of 9999 cares 5;", 4, 12);
    }

    private static void caresOfATell() {
        Due.part("Terms: cares 0 .. 99");
        Due.due("0", fine("person a of 0 cares 0;", 1).person(0, 1), 0);
        Due.due("1", fine("person a of 0 cares 1;", 1).person(0, 1), 1);
        Due.due("98", fine("person a of 0 cares 98;", 1).person(0, 1), 98);
        Due.due("99", fine("person a of 0 cares 99;", 1).person(0, 1), 99);
        fault("person a of 0 cares 100;", 4, 20);
        fault("person a of 0 cares 9999;", 4, 20);
    }

    private static void newsOfATell() {
        Due.part("Terms: news 0 .. 100 in 100, of 1 .. 20");
        int[][] fine = {{0, 1}, {1, 2}, {99, 19}, {100, 20}};
        for (int[] f : fine) {
            GreyHair x = fine("person a of 0 cares 5 news " + f[0] + " of " + f[1] + ";", 1);
            Due.due("person(0, 5)", x.person(0, 5), f[0]);
            Due.due("person(0, 6)", x.person(0, 6), f[1]);
        }
        fault("person a of 0 cares 5 news 101 of 5;", 4, 27);
        fault("person a of 0 cares 5 news 9999 of 5;", 4, 27);
        fault("person a of 0 cares 5 news 5 of 0;", 4, 32);
        fault("person a of 0 cares 5 news 5 of 21;", 4, 32);
        fault("person a of 0 cares 5 news 5 of 9999;", 4, 32);
    }

    private static void newsNotTold() {
        Due.part("Terms: none if not told");
        GreyHair x = fine("person a of 0 cares 5;person b of 0 cares 5 news 0 of 1;draw 3;", 2);
        Due.due("person(0, 5)", x.person(0, 5), 0);
        Due.due("person(0, 6)", x.person(0, 6), 0);
        x.day();
        Due.due("b's draw alone", x.about(5), (3 * 137 + 71) % 1000);
        x = fine("person a of 0 cares 5;person b of 0 cares 5;draw 3;", 2);
        x.day();
        Due.due("no draw", x.about(5), 3);
    }

    private static void fourWithNews() {
        Due.part("Terms: news of 4 persons at most; of a fifth one: at this word");
        String four = persons(4, " news 1 of 1");
        fine(four, 4);
        fine(four + "person e of 0 cares 5;person f of 0 cares 5;", 6);
        fault(four + "person e of 0 cares 5 news 1 of 1;", 2, four.length() + 22);
        fault(four + "person e of 0 cares 5 news $", 2, four.length() + 22);
        fault(four + "person e of 0 cares 5;person f of 0 cares 5 news 101", 2, four.length() + 44);
        String first = "person e of 0 cares 5;person f of 0 cares 5;";
        fine(first + four, 6);
    }

    private static String pairs(int count, String names) {
        StringBuilder text = new StringBuilder();
        int left = count;
        for (int i = 0; i < names.length(); i++) {
            for (int j = 0; j < names.length() && left > 0; j++) {
                if (i != j) {
                    text.append(Due.knows("" + names.charAt(i) + names.charAt(j)));
                    left--;
                }
            }
        }
        return text.toString();
    }

    private static void twelveKnows() {
        Due.part("Terms: at most 12 knows");
        String six = persons(6, "");
        for (int count = 0; count <= 12; count++) {
            Due.due("about(1)", fine(six + pairs(count, "abcdef"), 6).about(1), count);
        }
        String text = six + pairs(12, "abcdef");
        fault(text + "knows f a;", 2, text.length());
        fault(text + " knows", 2, text.length() + 1);
        fault(text + "knows a a;", 2, text.length());
        fault(text + "knows z z;", 2, text.length());
        fine(persons(4, "") + pairs(12, "dcba"), 4);
    }

    private static void anotherOne() {
        Due.part("Terms: a person of another one's cares; 3 two that are one (at the second name)");
        String two = persons(2, "");
        fault(two + "knows a a;", 3, two.length() + 8);
        fault(two + "knows b  b;", 3, two.length() + 9);
        fine(two + "knows a b;", 2);
        fine(two + "knows b a;", 2);
    }

    private static void toldAhead() {
        Due.part("Terms: both told ahead; 5 a name that no person has");
        String one = "person a of 0 cares 1;";
        String other = "person b of 0 cares 1;";
        fine(one + other + "knows a b;", 2);
        fault(one + "knows a b;" + other, 5, one.length() + 8);
        fault(one + "knows b a;" + other, 5, one.length() + 6);
        fault("knows a b;" + one + other, 5, 6);
        fine(one + other + "knows a b;person c of 0 cares 1;knows c a;", 3);
    }

    private static void eachTwoOnce() {
        Due.part("Terms: each two once in this order; 3 that are told already (at the second name)");
        String two = persons(2, "") + "knows a b;";
        fault(two + "knows a b;", 3, two.length() + 8);
        fine(two + "knows b a;", 2);
        fault(two + "knows b a;knows a b;", 3, two.length() + 18);
        fault(two + "knows b a;knows b a;", 3, two.length() + 18);
    }

    private static void numberedAsTold() {
        Due.part("Terms: numbered as told, each sort by itself");
        GreyHair x = fine("ease 2;person z of 1 cares 31;draw 4;person a of 0 cares 32;knows a z;grows 0;"
                + "person m of 1 cares 33;knows z m;worry care;person b of 0 cares 34;", 4);
        for (int i = 0; i < 4; i++) {
            Due.due("person(" + i + ", 1)", x.person(i, 1), 31 + i);
        }
        Due.due("person(1, 3)", x.person(1, 3), 1);
        Due.due("person(0, 3)", x.person(0, 3), 4);
    }

    private static void easeTold() {
        Due.part("Terms: ease (0 .. 999; 1)");
        Due.due("not told", fine("", 0).about(2), 1);
        Due.due("0", fine("ease 0;", 0).about(2), 0);
        Due.due("1", fine("ease 1;", 0).about(2), 1);
        Due.due("999", fine("ease 999;", 0).about(2), 999);
        fault("ease 1000;", 4, 5);
        fault("ease 9999;", 4, 5);
    }

    private static void drawTold() {
        Due.part("Terms: draw (0 .. 999; 0)");
        Due.due("not told", fine("", 0).about(5), 0);
        Due.due("0", fine("draw 0;", 0).about(5), 0);
        Due.due("1", fine("draw 1;", 0).about(5), 1);
        Due.due("999", fine("draw 999;", 0).about(5), 999);
        fault("draw 1000;", 4, 5);
        fault("draw 9999;", 4, 5);
    }

    private static void onceEach() {
        Due.part("Terms: worry, grows, ease, draw once each; 2 a second time: at the line's first word");
        String all = "worry 1;grows 0;ease 1;draw 0;";
        fine(all, 0);
        fine("draw 0;ease 1;grows 0;worry 1;", 0);
        for (String word : new String[] {"worry", "grows", "ease", "draw"}) {
            fault(all + " " + word + " 1;", 2, all.length() + 1);
            fault(all + word + " $", 2, all.length());
            fault(word + " 1;" + word, 2, word.length() + 3);
        }
    }

    private static String sum(int units) {
        return "1" + "+1".repeat(units - 1);
    }

    private static void thirtyInOne() {
        Due.part("Terms: 30 units in one e");
        for (String word : new String[] {"worry ", "grows "}) {
            Due.due("1", fine(word + "1;", 0).about(11), 1);
            Due.due("29", fine(word + sum(29) + ";", 0).about(11), 29);
            Due.due("30", fine(word + sum(30) + ";", 0).about(11), 30);
            fault(word + sum(31) + ";", 2, 66);
            fault(word + sum(32) + ";", 2, 66);
        }
        Due.due("30 of them counted", fine("person a of 0 cares 0;worry " + sum(30) + ";", 1).person(0, 2), 30);
        Due.due("30 in many brackets", fine("worry " + "(1)+".repeat(14) + "1+1;", 0).about(11), 30);
    }

    private static void sixtyInAll() {
        Due.part("Terms: 60 units in all");
        Due.due("none", fine("", 0).about(11), 0);
        Due.due("none", fine(persons(2, "") + "ease 5;draw 5;", 2).about(11), 0);
        Due.due("60", fine("worry " + sum(30) + ";grows " + sum(30) + ";", 0).about(11), 60);
        Due.due("31", fine("grows 1;worry " + sum(30) + ";", 0).about(11), 31);
        String first = "grows " + sum(30) + ";";
        fault(first + "worry " + sum(31) + ";", 2, first.length() + 66);
    }

    private static void unitTooMany() {
        Due.part("Terms: 2 a unit too many: at its first token");
        String thirty = "worry " + sum(30);
        for (String unit : new String[] {"1", "9999", "care", "known", "has", "house", "day", "(1)", "(", "(("}) {
            fault(thirty + "+ " + unit, 2, thirty.length() + 2);
            fault(thirty + "-" + unit + ";", 2, thirty.length() + 1);
        }
        fault(thirty + " and 1;", 2, thirty.length() + 5);
        fault(thirty + " and not 1;", 2, thirty.length() + 9);
        fault(thirty + " and not not (1);", 2, thirty.length() + 13);
        fault(thirty + "<1;", 2, thirty.length() + 1);
    }

    private static void bracketsAreUnits() {
        Due.part("Terms: unit = ( e )");
        Due.due("( 1 )", fine("worry (1);", 0).about(11), 2);
        Due.due("( ( 1 ) )", fine("worry ((1));", 0).about(11), 3);
        fine("worry (" + sum(29) + ");", 0);
        fault("worry (" + sum(30) + ");", 2, 7 + 58);
        fine("worry " + sum(28) + "+(1);", 0);
        fault("worry " + sum(29) + "+(1);", 2, 6 + 57 + 2);
    }

    private static void longestFormula() {
        Due.part("Terms: 30 units, 7 nots ahead of each");
        String seven = "not not not not not not not ";
        String joined = (seven + "0 and ").repeat(29);
        GreyHair x = fine(Due.cares(1) + "worry " + joined + seven + "0;", 1);
        Due.due("all are 1", x.person(0, 2), 1);
        x = fine(Due.cares(1) + "worry " + joined + seven + "1;", 1);
        Due.due("the last is 0", x.person(0, 2), 0);
        x = fine(Due.cares(1) + "grows " + joined + seven + "care;", 1);
        Due.due("the last is 0", x.cares(0, 1), 1);
        fault("worry " + joined + seven + "0 and " + seven + "0;", 2, 6 + 30 * 34 + 28);
        // each of seven waits for what is within it: 1 less 14, that from 1, and so on
        x = fine(Due.cares(1) + "worry 50+" + "1-(".repeat(7) + "1" + "-2*care".repeat(7) + ")".repeat(7) + ";", 1);
        Due.due("about(11)", x.about(11), 30);
        Due.due("by turns", x.person(0, 2), 50 + 14);
    }

    private static void unitWithinSix() {
        Due.part("Terms: a unit ( e ) within 6 others at most; 2 what is within 7: at its first token");
        for (int deep = 1; deep <= 7; deep++) {
            fine("worry " + "(".repeat(deep) + "1" + ")".repeat(deep) + ";", 0);
        }
        for (int deep = 8; deep <= 10; deep++) {
            fault("worry " + "(".repeat(deep) + "1" + ")".repeat(deep) + ";", 2, 13);
        }
        fault("worry " + "( ".repeat(8), 2, 20);
        fine("worry " + "(".repeat(7) + "1+care*2" + ")".repeat(7) + ";", 0);
        fault("worry " + "(".repeat(7) + "1+(", 2, 15);
    }

    private static void oneBehindNotWithinSix() {
        Due.part("Terms: a one behind not within 6 others at most; 2 what is within 7: at the not");
        for (int deep = 1; deep <= 7; deep++) {
            GreyHair x = fine("person a of 0 cares 0;worry " + "not ".repeat(deep) + "0;", 1);
            Due.due("not, " + deep + " times", x.person(0, 2), deep % 2);
        }
        for (int deep = 8; deep <= 10; deep++) {
            fault("worry " + "not ".repeat(deep) + "0;", 2, 34);
        }
        fault("worry " + "not ".repeat(8), 2, 34);
        fault("worry " + "not ".repeat(7) + "$", 1, 34);
    }

    private static void bothTogether() {
        Due.part("Terms: a unit ( e ), or a one behind not, within 6 others at most");
        fine("worry not (not (not (not 0)));", 0);
        fault("worry not (not (not (not (0))));", 2, 25);
        fault("worry (not (not (not (not 0))));", 2, 22);
        fine("worry ((((((not 0))))));", 0);
        fine("worry (((((((0)))))));", 0);
        fault("worry (((((((not 0)))))));", 2, 13);
        fine("worry not not not not not not (0);", 0);
        fault("worry not not not not not not not (0);", 2, 34);
        fault("worry not not not not not not (not 0);", 2, 31);
        fault("worry not not not not not not ((0));", 2, 31);
    }

    private static void sideBySide() {
        Due.part("Terms: within others, not beside them");
        String seven = "(((((((1)))))))";
        fine("worry " + seven + "+" + seven + "+" + seven + ";", 0);
        String nots = "not not not not not not not 1";
        fine("worry " + nots + " and " + nots + " or " + nots + ";", 0);
        fine("worry (1<" + seven.substring(1, 14) + ");", 0);
        fault("worry " + seven + "+(" + seven + ");", 2, 6 + 15 + 2 + 6);
    }

    private static void farTooMany() {
        Due.part("Terms: texts of 1,600 bytes that have far too many of one sort");
        fault("worry " + "(".repeat(1594), 2, 13);
        fault("worry " + "not ".repeat(398), 2, 34);
        fault("worry " + "1+".repeat(797), 2, 66);
        fault("worry " + "1 or not ".repeat(170), 2, 6 + 30 * 9);
        fault("a".repeat(1600), 1, 0);
        fault("1".repeat(1600), 1, 0);
        fault(";".repeat(1600), 2, 0);
        fault("ease 1;".repeat(228), 2, 7);
        fine(" ".repeat(1600), 0);
        fine("\n".repeat(1600), 0);
    }

    private static void theFirstByItsPlace() {
        Due.part("Terms: faults, the first by its place (bytes from 0)");
        fault("$", 1, 0);
        fault("ease 1000;$", 4, 5);
        fault("$ease 1000;", 1, 0);
        fault("ease 1 $ease 1000;", 1, 7);
        fault("knows a a;$", 5, 6);
        fault("person a of 0 cares 1;person a of 2", 3, 29);
        fault("person a of 2 cares 1;person a of 2", 4, 12);
        fault("worry (1;person a of 2", 2, 8);
        fault("worry 1 1 12345", 2, 8);
        fault("worry 1 12345 1", 1, 8);
    }

    /** Tokens of a text; each cut of it behind a token, but for those behind a line, ends too soon. */
    private static void theEnd() {
        Due.part("Terms: the end: the text's length");
        String[] tokens = ("person a of 0 cares 1 news 2 of 3 ; person b of 0 cares 1 ; knows a b ; "
                + "worry not ( care + known ) * 2 < 3 and 4 or not day ; grows 0 - has ; ease 5 ; draw 6 ;").split(" ");
        String text = "";
        int persons = 0;
        for (String token : tokens) {
            text = text + (text.isEmpty() ? "" : " ") + token;
            persons += token.equals("person") ? 1 : 0;
            if (token.equals(";")) {
                fine(text, persons);
                fine(text + " \n ", persons);
            } else {
                fault(text, 2, text.length());
                fault(text + " ", 2, text.length() + 1);
                fault(text + "\n\n \n", 2, text.length() + 4);
            }
        }
    }

    private static void theLeastAtOnePlace() {
        Due.part("Terms: faults, at one place the least");
        // a unit too many that is no token; a number that is no token; a name that is none
        fault("worry " + sum(30) + "+$", 1, 66);
        fault("worry " + sum(30) + "+12345", 1, 66);
        fault("worry " + sum(30) + "+1x", 1, 66);
        fault("worry " + "(".repeat(7) + "$", 1, 13);
        fault("ease 10000;", 1, 5);
        fault("ease 1000x;", 1, 5);
        fault("person a of 2x", 1, 12);
        fault("person 1000", 2, 7);
        fault("person a of 0 cares 1;knows a 9999", 2, 30);
        fault("person a of 0 cares 1;knows abcdefghi", 1, 28);
        fault("worry 1 9999;", 2, 8);
        // a second ease, and a word that no name is: both can't stand there
        fault("ease 1;ease 1000", 2, 7);
        fault("ease $", 1, 5);
    }

    private static void noToken() {
        Due.part("Terms: 1 no token");
        String[] heads = {"", "person ", "person a ", "person a of ", "person a of 0 ", "person a of 0 cares ",
            "person a of 0 cares 1 ", "person a of 0 cares 1 news ", "person a of 0 cares 1 news 2 ",
            "person a of 0 cares 1 news 2 of ", "person a of 0 cares 1 news 2 of 3 ", "person a of 0 cares 1;",
            "person a of 0 cares 1;knows ", "person a of 0 cares 1;knows a ", "worry ", "worry (", "worry not ", "worry 1 ",
            "worry 1+", "worry 1<", "worry 1*", "worry (1", "worry (1)", "grows 1 or ", "grows 1 and ", "ease ", "ease 1",
            "ease 1;", "draw ", "draw 1 "};
        for (String head : heads) {
            fault(head + "$", 1, head.length());
            fault(head + "\t;", 1, head.length());
            fault(head + " \u0080", 1, head.length() + 1);
        }
    }

    private static void cannotStandThere() {
        Due.part("Terms: 2 one that can't stand there");
        // each place of each line, with a word, an N and a sign that can't stand there
        String[][] places = {{"", "of", "1", ";"}, {"person ", "of", "1", "("}, {"person a ", "cares", "0", ";"},
            {"person a of ", "a", "of", "-"}, {"person a of 0 ", "care", "1", ";"}, {"person a of 0 cares ", "a", "of", ";"},
            {"person a of 0 cares 1 ", "of", "1", "="}, {"person a of 0 cares 1 news ", "of", "a", ";"},
            {"person a of 0 cares 1 news 2 ", "cares", "1", ";"}, {"person a of 0 cares 1 news 2 of ", "a", "news", ";"},
            {"person a of 0 cares 1 news 2 of 3 ", "news", "1", ")"}, {"knows ", "knows", "1", ";"},
            {"person a of 0 cares 1;knows a ", "and", "1", ";"}, {"worry ", "or", "and", ")"}, {"worry ", "a", ";", "+"},
            {"worry ", "cares", "*", "<"}, {"worry 1 ", "not", "1", "("}, {"worry 1 ", "care", "of", ")"},
            {"worry 1+", "not", "or", "+"}, {"worry 1-", "and", "-", ";"}, {"worry 1*", "not", "*", ")"},
            {"worry 1/", "worry", "/", ";"}, {"worry 1%", "of", "%", ";"}, {"worry 1<", "not", "<", ";"},
            {"worry 1>", "not", "=", ";"}, {"worry 1=", "not", ">", ";"}, {"worry not ", "and", ";", ")"},
            {"worry 1 and ", "and", "or", ";"}, {"worry 1 or ", "or", "and", ";"}, {"worry (", "or", ")", ";"},
            {"worry (1 ", "care", "1", ";"}, {"worry (1) ", "not", "1", "("}, {"ease ", "ease", "draw", "-"},
            {"ease 1 ", "ease", "1", "+"}, {"draw ", "draw", "ease", "("}, {"draw 1 ", "draw", "1", ")"}};
        for (String[] place : places) {
            for (int i = 1; i < place.length; i++) {
                fault(place[0] + place[i], 2, place[0].length());
                fault(place[0] + place[i] + " $", 2, place[0].length());
            }
        }
    }

    private static void aSecondTime() {
        Due.part("Terms: 2 one of a sort too many or a second time: at the line's first word");
        fault("ease 1;\n  ease 2;", 2, 10);
        fault("worry 1;ease 1;grows 1;draw 1;worry 2;", 2, 30);
        fault("grows 1;worry 1;grows", 2, 16);
        fault("draw 1;draw $", 2, 7);
        String six = persons(6, "");
        fault("ease 3;" + six + "draw 2;person g of 0 cares 1;", 2, six.length() + 14);
    }

    private static void aNameToldAlready() {
        Due.part("Terms: 3 a name told already");
        fault("person a of 0 cares 1;person a of 0 cares 1;", 3, 29);
        fault("person a of 0 cares 1;person b of 1 cares 1;person b", 3, 51);
        fault("person a of 0 cares 1;person b of 1 cares 1;person a$", 3, 51);
        fine("person a of 0 cares 1;person aa of 0 cares 1;", 2);
        String five = persons(5, "");
        fault(five + "person e", 3, five.length() + 7);
    }

    private static void aNumberThatCannotBe() {
        Due.part("Terms: 4 a number that can't be");
        fault("person a of  2", 4, 13);
        fault("person a of 0 cares 0100;", 4, 20);
        fault("person a of 0 cares 5 news 0101 of 0;", 4, 27);
        fault("person a of 0 cares 5 news 0 of 0000;", 4, 32);
        fault("ease 1000$", 4, 5);
        fault("draw 1000 $", 4, 5);
        fine("person a of 0001 cares 0099 news 0100 of 0020;ease 0999;draw 0999;", 1);
        fine("worry 0*9999;grows 9999%9999;", 0);
    }

    private static void aNameThatNobodyHas() {
        Due.part("Terms: 5 a name that no person has");
        String two = persons(2, "");
        fault("knows a", 5, 6);
        fault(two + "knows c a;", 5, two.length() + 6);
        fault(two + "knows a c;", 5, two.length() + 8);
        fault(two + "knows c c;", 5, two.length() + 6);
        fault(two + "knows aa a;", 5, two.length() + 6);
        fault(two + "knows a$", 1, two.length() + 7);
        fault(two + "knows a c$", 5, two.length() + 8);
    }

    private static void oneRelationAtMost() {
        Due.part("Terms: one = not one | sum [(< | > | =) sum]");
        for (String sign : new String[] {"<", ">", "="}) {
            fine("worry 1" + sign + "2;", 0);
            fault("worry 1" + sign + "2" + sign + "3;", 2, 9);
            fine("worry (1" + sign + "2)" + sign + "3;", 0);
            fine("worry 1" + sign + "(2" + sign + "3);", 0);
            fine("worry not 1" + sign + "2 and 1" + sign + "2;", 0);
        }
        fault("worry 1<>2;", 2, 8);
        fault("worry 1<=2;", 2, 8);
        fault("worry 1==2;", 2, 8);
    }
}
