/** Each fault of a text, at its place; and texts at the edges that have none. */
public final class FaultsTest {
    private static final String ANN = "person ann of 0 cares 5;";
    private static final String TWO = ANN + "person bob of 1 cares 6;";

    public static void main(String[] args) {
        noToken();
        cannotStandThere();
        tooMany();
        toldAlready();
        numberThatCannotBe();
        nobody();
        fineTexts();
        longestText();
        Due.finish();
    }

    private static void fault(String text, int code, int place) {
        GreyHair x = new GreyHair();
        Due.due("family() of " + text, Due.tell(x, text), -1);
        Due.due("fault(0) of " + text, x.fault(0), code);
        Due.due("fault(1) of " + text, x.fault(1), place);
    }

    private static void fine(String text, int persons) {
        GreyHair x = new GreyHair();
        Due.due("family() of " + text, Due.tell(x, text), persons);
        Due.due("fault(0) of " + text, x.fault(0), 0);
        Due.due("fault(1) of " + text, x.fault(1), -1);
    }

    private static void noToken() {
        Due.part("no token");
        fault("\t", 1, 0);
        fault("\r\n", 1, 0);
        fault("ease 1;\0", 1, 7);
        fault("ease 1; \u00e9", 1, 8);
        fault("\u00ff", 1, 0);
        fault("Ease 1;", 1, 0);
        fault("eAse 1;", 2, 0);
        fault("ease 12345;", 1, 5);
        fault("ease 00001;", 1, 5);
        fault("ease 1x;", 1, 5);
        fault("person a of 2x", 1, 12);
        fault("ease 1X;", 1, 6);
        fault("personann of 0 cares 1;", 1, 0);
        fault("worry care:1;", 1, 10);
        fault("worry 1+$", 1, 8);
        fault("worry 1 $", 1, 8);
    }

    private static void cannotStandThere() {
        Due.part("can't stand there");
        fault(";", 2, 0);
        fault("5", 2, 0);
        fault("ann", 2, 0);
        fault("person", 2, 6);
        fault("person ", 2, 7);
        fault("person 5", 2, 7);
        fault("person ann 0", 2, 11);
        fault("person ann of x", 2, 14);
        fault("person ann of 0 care 5;", 2, 16);
        fault("person ann of 0 cares ;", 2, 22);
        fault("person ann of 0 cares 5 of 5;", 2, 24);
        fault("person ann of 0 cares 5 news 5;", 2, 30);
        fault("person ann of 0 cares 5", 2, 23);
        fault(TWO + "knows ann;", 2, TWO.length() + 9);
        fault(TWO + "knows ann bob", 2, TWO.length() + 13);
        fault(TWO + "knows ann bob ann", 2, TWO.length() + 14);
        fault(TWO + "knows of", 2, TWO.length() + 6);
        fault(TWO + "knows ann day", 2, TWO.length() + 10);
        fault("ease ;", 2, 5);
        fault("ease x;", 2, 5);
        fault("ease 5 5", 2, 7);
        fault("draw -5", 2, 5);
        fault("worry ;", 2, 6);
        fault("worry -1;", 2, 6);
        fault("worry 1+;", 2, 8);
        fault("worry 1 1;", 2, 8);
        fault("worry (1;", 2, 8);
        fault("worry 1);", 2, 7);
        fault("worry ();", 2, 7);
        fault("worry 1=1=1;", 2, 9);
        fault("worry 1+not 1;", 2, 8);
        fault("worry 1<not 1;", 2, 8);
        fault("worry not;", 2, 9);
        fault("worry 1 and or 1;", 2, 12);
        fault("worry cares;", 2, 6);
        fault("worry ann;", 2, 6);
        fault("worry 1", 2, 7);
        for (String word : Model.WORDS) {
            fault("person " + word + " of 0 cares 1;", 2, 7);
        }
    }

    private static String persons(int count, String behind) {
        StringBuilder text = new StringBuilder();
        for (int i = 0; i < count; i++) {
            text.append("person ").append((char) ('p' + i)).append(" of 0 cares 1").append(behind).append(';');
        }
        return text.toString();
    }

    private static String twelveKnows() {
        StringBuilder text = new StringBuilder(persons(4, ""));
        for (int i = 0; i < 4; i++) {
            for (int j = 0; j < 4; j++) {
                if (i != j) {
                    text.append("knows ").append((char) ('p' + i)).append(' ').append((char) ('p' + j)).append(';');
                }
            }
        }
        return text.toString();
    }

    private static void tooMany() {
        Due.part("too many");
        String six = persons(6, "");
        fault(six + "person w of 0 cares 1;", 2, six.length());
        fault(six + "person", 2, six.length());
        String twelve = twelveKnows();
        fine(twelve, 4);
        fault(twelve + "knows p p;", 2, twelve.length());
        fault("grows 1;grows 1;", 2, 8);
        fault("draw 1;draw 1;", 2, 7);
        fault("ease 1;worry 1;ease", 2, 15);
        String four = persons(4, " news 1 of 1");
        fine(four + "person w of 0 cares 1;", 5);
        fault(four + "person w of 0 cares 1 news 1 of 1;", 2, four.length() + 22);
        String thirty = "worry 1" + "+1".repeat(29);
        fine(thirty + ";", 0);
        fault(thirty + "+1;", 2, thirty.length() + 1);
        fine(thirty + ";grows 1" + "+1".repeat(29) + ";", 0);
        String inBrackets = "worry (1)" + "+1".repeat(28);
        fine(inBrackets + ";", 0);
        fault(inBrackets + "+1;", 2, inBrackets.length() + 1);
        fault(inBrackets + "+(1);", 2, inBrackets.length() + 1);
        fine("worry " + "(".repeat(7) + "1" + ")".repeat(7) + ";", 0);
        fault("worry " + "(".repeat(8), 2, 13);
        fine("worry " + "not ".repeat(7) + "1;", 0);
        fault("worry " + "not ".repeat(8) + "1;", 2, 34);
        fine("worry not(not(not(not 1)));", 0);
        fault("worry not(not(not(not(1))));", 2, 21);
        fault("worry not(not(not((not 1))));", 2, 19);
        fine("worry " + "not ".repeat(7) + "1 and " + "not ".repeat(7) + "1;", 0);
    }

    private static void toldAlready() {
        Due.part("told already");
        fault(TWO + "person ann of 0 cares 1;", 3, TWO.length() + 7);
        fault(TWO + "knows bob bob;", 3, TWO.length() + 10);
        fault(TWO + "knows ann bob;knows ann bob;", 3, TWO.length() + 24);
        fine(TWO + "knows ann bob;knows bob ann;", 2);
    }

    private static void numberThatCannotBe() {
        Due.part("a number that can't be");
        fault("person ann of 2 cares 5;", 4, 14);
        fault("person ann of 0 cares 100;", 4, 22);
        fault("person ann of 0 cares 5 news 101 of 5;", 4, 29);
        fault("person ann of 0 cares 5 news 100 of 0;", 4, 36);
        fault("person ann of 0 cares 5 news 100 of 21;", 4, 36);
        fault("ease 1000;", 4, 5);
        fault("draw 1000;", 4, 5);
        fault("draw 1000$", 4, 5);
        fine("person ann of 1 cares 99 news 100 of 20;ease 999;draw 999;", 1);
        fine("person ann of 0 cares 0 news 0 of 1;ease 0;draw 0;", 1);
        fine("person ann of 0001 cares 0099;ease 0000;", 1);
        fine("worry 9999;", 0);
    }

    private static void nobody() {
        Due.part("nobody");
        fault(TWO + "knows cat ann;", 5, TWO.length() + 6);
        fault(TWO + "knows ann cat;", 5, TWO.length() + 10);
        fault(TWO + "knows cat cat;", 5, TWO.length() + 6);
        fault("knows ann bob;" + TWO, 5, 6);
    }

    private static void fineTexts() {
        Due.part("fine texts");
        fine("", 0);
        fine(" \n ", 0);
        fine("ease\n5\n;", 0);
        fine("person az of 0 cares 10;person za of 0 cares 9;knows az za;", 2);
        fine("worry(care);ease5;", 0);
        fine("person line of 0 cares 1;person sum of 0 cares 1;person hair of 1 cares 1;", 3);
        fine("person abcdefgh of 0 cares 1;person abcdefgi of 0 cares 1;", 2);
        fine("draw 5;grows 0;worry 1;ease 1;" + TWO, 2);
        fine("worry 1 or 2 and not 3<4+5*6/7%8;", 0);
    }

    private static void longestText() {
        Due.part("the longest text");
        GreyHair x = new GreyHair();
        String blanks = " ".repeat(1580) + "ease 7;" + " ".repeat(12) + "$";
        Due.put(x, blanks);
        Due.due("about(10)", x.about(10), 1600);
        Due.due("feed", x.feed(0, 0, 0, 0, 0), -1);
        Due.due("family()", x.family(), -1);
        Due.due("fault(0)", x.fault(0), 1);
        Due.due("fault(1)", x.fault(1), 1599);
        Due.put(x, blanks);
        x.end(1599);
        Due.due("family()", x.family(), 0);
        Due.due("about(2)", x.about(2), 7);
    }
}
