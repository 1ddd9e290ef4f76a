/** Each promise of the document: ordinary inputs, its edges, wrong inputs. */
public final class PromisesTest {
    private static final String FOUR = "person ann of 0 cares 20;person bob of 0 cares 12 news 50 of 10;"
            + "person cat of 1 cares 15;person dan of 1 cares 8;knows bob cat;knows dan ann;ease 10;draw 9;";
    private static final String TWO = "person a of 0 cares 30;person b of 1 cares 20;";
    private static final String GROWING = "person a of 0 cares 5;person b of 1 cares 4;"
            + "worry care+has*3;grows 3-has*4;ease 6;";
    private static final int LOW = Integer.MIN_VALUE;
    private static final int HIGH = Integer.MAX_VALUE;

    public static void main(String[] args) {
        newObject();
        tape();
        family();
        fault();
        person();
        formulas();
        hairGoes();
        day();
        news();
        easeAndTake();
        tellAndForget();
        pluck();
        dye();
        undoAndRedo();
        fortyActs();
        will();
        cares();
        next();
        spare();
        easing();
        hush();
        knows();
        wed();
        nightsAndReturns();
        rank();
        words();
        peaceAndBurden();
        calm();
        law();
        odds();
        duel();
        path();
        silence();
        aloneAndHeaviest();
        lies();
        seen();
        time();
        fits();
        ask();
        boxes();
        about();
        Due.finish();
    }

    private static void newObject() {
        Due.part("1 new object");
        GreyHair x = new GreyHair();
        int[] wanted = {0, 0, 1, 0, 0, 0, 0, 0, 0, 0, 0, 0, 0};
        for (int i = 0; i < wanted.length; i++) {
            Due.due("about(" + i + ")", x.about(i), wanted[i]);
        }
        Due.due("hair()", x.hair(), -1);
        Due.due("person(0, 0)", x.person(0, 0), -1);
        Due.due("pluck()", x.pluck(), -2);
        Due.due("dye()", x.dye(), -1);
        Due.due("ease(0, 1)", x.ease(0, 1), -1);
        Due.due("tell(0, 1)", x.tell(0, 1), -1);
        Due.due("undo()", x.undo(), false);
        Due.due("back(0)", x.back(0), -1);
        Due.due("odds(-1, 1)", x.odds(-1, 1), 1);
        Due.due("odds(0, 0)", x.odds(0, 0), -1);
        Due.due("ask(0, 0)", x.ask(0, 0), -1);
        Due.due("sure(0, 0)", x.sure(0, 0), -1);
        Due.due("hush(1)", x.hush(1), 0);
        Due.due("law(0)", x.law(0), 0);
        Due.due("burden(60)", x.burden(60), 0);
        Due.due("day()", x.day(), -1);
        Due.due("undo()", x.undo(), true);
        Due.due("about(4)", x.about(4), 0);
    }

    private static void tape() {
        Due.part("2, 3 feed, end");
        GreyHair x = new GreyHair();
        for (int i = 1; i <= 80; i++) {
            Due.due("feed", x.feed(-1, LOW, HIGH, 0, 1), 20 * i);
        }
        Due.due("feed", x.feed(0, 0, 0, 0, 0), -1);
        Due.due("about(10)", x.about(10), 1600);
        Due.due("end(1601)", x.end(1601), -1);
        Due.due("end(-1)", x.end(-1), -1);
        Due.due("end(1581)", x.end(1581), 1581);
        Due.due("feed", x.feed(0, 0, 0, 0, 0), -1);
        Due.due("end(1580)", x.end(1580), 1580);
        Due.due("feed", x.feed(0, 0, 0, 0, 0), 1600);
        Due.due("end(0)", x.end(0), 0);
        Due.due("end(1)", x.end(1), -1);
        Due.due("end(0)", x.end(0), 0);
        // "ease 12;" and "ease" once more, which comes behind the first bytes that are left
        Due.due("feed", x.feed(0x65617365, 0x2031323B, 0x65617365, 0x20333B20, 0x20202020), 20);
        Due.due("end(8)", x.end(8), 8);
        Due.due("feed", x.feed(0x64726177, 0x20343B20, 0x20202020, 0x20202020, 0x20202020), 28);
        Due.due("family()", x.family(), 0);
        Due.due("about(2)", x.about(2), 12);
        Due.due("about(5)", x.about(5), 4);
        Due.due("about(10)", x.about(10), 0);
    }

    private static void family() {
        Due.part("4 family");
        GreyHair x = Due.told(FOUR);
        x.later(7);
        x.day();
        x.day();
        x.undo();
        x.dye();
        x.seen(0, 0, true);
        x.rank();
        x.image(1);
        Due.due("family() with a fault", Due.tell(x, "person a of 5"), -1);
        Due.due("about(0)", x.about(0), 4);
        Due.due("about(3)", x.about(3), 1);
        Due.due("about(4)", x.about(4), 1);
        Due.due("about(6)", x.about(6), 2);
        Due.due("about(8)", x.about(8), 1);
        Due.due("about(10)", x.about(10), 0);
        Due.due("about(12)", x.about(12), 4);
        Due.due("person(1, 1)", x.person(1, 1), 22);
        Due.due("back(1)", x.back(1), 1);
        x.day();
        x.image(1);
        Due.due("family()", Due.tell(x, TWO), 2);
        int[] wanted = {2, 0, 1, 0, 0, 0, 0, 0, 0, 7, 0, 0, 0};
        for (int i = 0; i < wanted.length; i++) {
            Due.due("about(" + i + ")", x.about(i), wanted[i]);
        }
        Due.due("hair()", x.hair(), 0);
        Due.due("back(1)", x.back(1), -1);
        Due.due("undo()", x.undo(), false);
        Due.due("redo()", x.redo(), false);
        Due.due("an empty family()", x.family(), 0);
        Due.due("hair()", x.hair(), -1);
        Due.due("about(9)", x.about(9), 7);
    }

    private static void fault() {
        Due.part("5 fault");
        GreyHair x = new GreyHair();
        Due.due("fault(0)", x.fault(0), 0);
        Due.due("fault(1)", x.fault(1), -1);
        Due.tell(x, "ease 1; draw 1000;");
        Due.due("fault(0)", x.fault(0), 4);
        Due.due("fault(1)", x.fault(1), 13);
        Due.due("fault(2)", x.fault(2), -1);
        Due.due("fault(-1)", x.fault(-1), -1);
        Due.put(x, "?");
        Due.due("fault(0) of the latest family()", x.fault(0), 4);
        x.end(0);
        x.family();
        Due.due("fault(0)", x.fault(0), 0);
        Due.due("fault(1)", x.fault(1), -1);
    }

    private static void person() {
        Due.part("6 person");
        GreyHair x = Due.told(FOUR + "worry care*10+house;");
        int[] bob = {0, 12, 120, 4, 0, 50, 10};
        int[] cat = {1, 15, 151, 0, 2, 0, 0};
        for (int i = 0; i < bob.length; i++) {
            Due.due("person(1, " + i + ")", x.person(1, i), bob[i]);
            Due.due("person(2, " + i + ")", x.person(2, i), cat[i]);
        }
        x.tell(0, 2);
        Due.due("the first knows, too", x.person(2, 4), 3);
        Due.due("person(1, 7)", x.person(1, 7), -1);
        Due.due("person(1, -1)", x.person(1, -1), -1);
        Due.due("person(-1, 0)", x.person(-1, 0), -1);
        Due.due("person(4, 0)", x.person(4, 0), -1);
        Due.due("person(HIGH, HIGH)", x.person(HIGH, HIGH), -1);
    }

    /** The worry of the first of two (care 7, house 1, knowing of 20) by a formula. */
    private static int worry(String formula) {
        return Due.told("person a of 1 cares 7;person b of 0 cares 20;knows a b;ease 999;worry " + formula + ";")
                .person(0, 2);
    }

    private static void formulas() {
        Due.part("6 formulas");
        Due.due("care", worry("care"), 7);
        Due.due("known", worry("known"), 20);
        Due.due("has", worry("has"), 0);
        Due.due("house", worry("house"), 1);
        Due.due("day", worry("day+5"), 5);
        Due.due("clamp above", worry("1000"), 999);
        Due.due("clamp below", worry("0-1"), 0);
        Due.due("10-2-3", worry("10-2-3"), 5);
        Due.due("100/7/2", worry("100/7/2"), 7);
        Due.due("100%30*3", worry("100%30*3"), 30);
        Due.due("2+3*4", worry("2+3*4"), 14);
        Due.due("(2+3)*4", worry("(2+3)*4"), 20);
        Due.due("cut", worry("50-(0-7)/2"), 53);
        Due.due("rest", worry("50-(0-7)%4"), 53);
        Due.due("rest of a divisor below 0", worry("50-7%(0-4)"), 47);
        Due.due("by 0", worry("5/0+7%0+1"), 1);
        Due.due("wraps", worry("9999*9999*9999*9999%1000+1"), wrapped() + 1);
        Due.due("least by -1", worry("(0-8192*8192*32)/(0-1)<0"), 1);
        Due.due("least % -1", worry("(0-8192*8192*32)%(0-1)=0"), 1);
        Due.due("1<2", worry("(1<2)*10+(2<1)*100+(2<2)"), 10);
        Due.due("1>2", worry("(1>2)*10+(2>1)*100+(2>2)"), 100);
        Due.due("1=2", worry("(1=2)*10+(2=1)*100+(2=2)"), 1);
        Due.due("2+3<4", worry("2+3<4"), 0);
        Due.due("1<2+3", worry("1<2+3"), 1);
        Due.due("2*3>5", worry("2*3>5"), 1);
        Due.due("9>2*3", worry("9>2*3"), 1);
        Due.due("6-1=10/2", worry("6-1=10/2"), 1);
        Due.due("5 or 0", worry("5 or 0"), 1);
        Due.due("0 or 0", worry("0 or 0"), 0);
        Due.due("5 and 2", worry("5 and 2"), 1);
        Due.due("5 and 0", worry("5 and 0"), 0);
        Due.due("1 or 1 and 0", worry("1 or 1 and 0"), 1);
        Due.due("(1 or 1) and 0", worry("(1 or 1) and 0"), 0);
        Due.due("not 7", worry("not 7"), 0);
        Due.due("not 0", worry("not 0"), 1);
        Due.due("not 1<0", worry("not 1<0"), 1);
        Due.due("not 0 and 0", worry("not 0 and 0"), 0);
        Due.due("not not 7", worry("not not 7"), 1);
        Due.due("not told: care and half of known", Due.told("person a of 1 cares 7;person b of 0 cares 21;knows a b;")
                .person(0, 2), 17);
    }

    private static int wrapped() {
        int wrapping = 9999 * 9999 * 9999 * 9999 % 1000;
        return Math.max(0, wrapping);
    }

    private static void hairGoes() {
        Due.part("7 hair");
        Due.due("the most", Due.told(FOUR).hair(), 0);
        Due.due("like ones", Due.told("person a of 0 cares 4;person b of 0 cares 5;person c of 0 cares 5;").hair(), 1);
        Due.due("as much as ease", Due.told(TWO + "ease 30;").hair(), 0);
        Due.due("less than ease", Due.told(TWO + "ease 31;").hair(), -1);
        Due.due("ease 1, not told", Due.told("person a of 0 cares 0;").hair(), -1);
        Due.due("ease 0", Due.told("person a of 0 cares 0;person b of 0 cares 0;ease 0;").hair(), 0);
        Due.due("nobody has it at first", Due.told(TWO + "worry has*99;").hair(), -1);
    }

    private static void day() {
        Due.part("8 day");
        GreyHair x = Due.told(GROWING);
        Due.due("hair()", x.hair(), -1);
        int[][] wanted = {{0, 8, 7}, {0, 7, 10}, {1, 6, 13}, {1, 9, 12}, {1, 12, 11}, {0, 15, 10}};
        for (int i = 0; i < wanted.length; i++) {
            Due.due("day() " + i, x.day(), wanted[i][0]);
            Due.due("person(0, 1)", x.person(0, 1), wanted[i][1]);
            Due.due("person(1, 1)", x.person(1, 1), wanted[i][2]);
            Due.due("about(4)", x.about(4), i + 1);
        }
        x = Due.told("person a of 0 cares 98;person b of 0 cares 1;person c of 0 cares 50;knows c a;knows c b;"
                + "grows (known=0)*(care>50)*5-(care<50)*5+known;");
        x.day();
        Due.due("99 at most", x.person(0, 1), 99);
        Due.due("0 at least", x.person(1, 1), 0);
        Due.due("by what is so ahead", x.person(2, 1), 99);
        x = Due.told("person a of 0 cares 98;grows 8192*8192*31+(8192*8192-1)+8192*8192*0;");
        x.day();
        Due.due("the sum wraps", x.person(0, 1), 0);
        x = Due.told("person a of 0 cares 3;grows day;");
        x.day();
        Due.due("the day ahead", x.person(0, 1), 3);
        x.day();
        Due.due("the day ahead", x.person(0, 1), 4);
        x = Due.told("person a of 0 cares 3;worry day=1;");
        Due.due("day() counts for the hair", x.day(), 0);
        Due.due("day()", x.day(), -1);
    }

    private static void news() {
        Due.part("8 news");
        GreyHair x = Due.told(FOUR);
        x.day();
        Due.due("seed", x.about(5), 304);
        Due.due("care", x.person(1, 1), 22);
        x.day();
        Due.due("seed", x.about(5), 719);
        Due.due("care", x.person(1, 1), 32);
        x.day();
        Due.due("seed", x.about(5), 574);
        Due.due("74 is not less than 50", x.person(1, 1), 32);
        x = Due.told("person a of 0 cares 95 news 100 of 20;person b of 0 cares 1;person c of 0 cares 5 news 0 of 9;");
        x.day();
        Due.due("99 at most", x.person(0, 1), 99);
        Due.due("never", x.person(2, 1), 5);
        Due.due("two draws", x.about(5), (71 * 137 + 71) % 1000);
        x = Due.told("person a of 0 cares 5 news 71 of 1;person b of 0 cares 5 news 72 of 1;draw 0;");
        x.day();
        Due.due("71 is not less than 71", x.person(0, 1), 5);
        Due.due("98 is not less than 72", x.person(1, 1), 5);
        x = Due.told("person a of 0 cares 5 news 72 of 1;draw 0;");
        x.day();
        Due.due("71 is less than 72", x.person(0, 1), 6);
    }

    private static void easeAndTake() {
        Due.part("9, 10 ease, take");
        GreyHair x = Due.told(TWO);
        Due.due("ease(0, 9)", x.ease(0, 9), 21);
        Due.due("ease(0, 9)", x.ease(0, 9), 12);
        Due.due("the hair stays", x.hair(), 0);
        Due.due("ease(0, 9)", x.ease(0, 9), 3);
        Due.due("0 at least", x.ease(0, 4), 0);
        Due.due("an act all the same", x.ease(0, 1), 0);
        Due.due("about(6)", x.about(6), 5);
        Due.due("take(1, 9)", x.take(1, 9), 29);
        for (int i = 0; i < 7; i++) {
            x.take(1, 9);
        }
        Due.due("99 at most", x.take(1, 8), 99);
        Due.due("take(1, 1)", x.take(1, 1), 99);
        Due.due("about(6)", x.about(6), 15);
        int[][] wrong = {{0, 0}, {0, 10}, {0, -1}, {-1, 5}, {2, 5}, {LOW, LOW}, {HIGH, HIGH}};
        for (int[] w : wrong) {
            Due.due("ease", x.ease(w[0], w[1]), -1);
            Due.due("take", x.take(w[0], w[1]), -1);
        }
        Due.due("about(6)", x.about(6), 15);
    }

    private static void tellAndForget() {
        Due.part("11, 12 tell, forget");
        GreyHair x = Due.told(TWO);
        Due.due("tell(1, 0)", x.tell(1, 0), 35);
        Due.due("the hair stays", x.hair(), 0);
        Due.due("about(1)", x.about(1), 1);
        Due.due("tell(1, 0)", x.tell(1, 0), -1);
        Due.due("tell(0, 0)", x.tell(0, 0), -1);
        Due.due("tell(0, 2)", x.tell(0, 2), -1);
        Due.due("tell(-1, 0)", x.tell(-1, 0), -1);
        Due.due("forget(0, 1)", x.forget(0, 1), -1);
        Due.due("forget(0, 0)", x.forget(0, 0), -1);
        Due.due("forget(1, 2)", x.forget(1, 2), -1);
        Due.due("forget(HIGH, 0)", x.forget(HIGH, 0), -1);
        Due.due("forget(1, 0)", x.forget(1, 0), 20);
        Due.due("about(1)", x.about(1), 0);
        Due.due("about(6)", x.about(6), 2);
        StringBuilder text = new StringBuilder();
        for (int i = 0; i < 6; i++) {
            text.append("person ").append((char) ('p' + i)).append(" of 0 cares 2;");
        }
        x = Due.told(text.toString());
        for (int i = 0; i < 12; i++) {
            int other = i % 2 == 0 ? (i / 2 + 1) % 6 : (i / 2 + 2) % 6;
            Due.due("tell", x.tell(i / 2, other), 3 + i % 2);
        }
        Due.due("there are 12", x.tell(0, 5), -1);
        x.forget(0, 1);
        Due.due("there are 11", x.tell(0, 5), 4);
    }

    private static void pluck() {
        Due.part("13 pluck");
        GreyHair x = Due.told("person a of 0 cares 30;person b of 1 cares 20;person c of 1 cares 5;knows c a;ease 20;");
        Due.due("hair()", x.hair(), 0);
        Due.due("what c knows of a counts on", x.pluck(), 1);
        Due.due("pluck()", x.pluck(), 0);
        x.ease(1, 1);
        Due.due("c has 5 and 15", x.pluck(), 2);
        x.ease(0, 9);
        x.ease(0, 9);
        Due.due("nobody else has as much as ease", x.pluck(), -1);
        Due.due("on the brush", x.pluck(), -2);
        Due.due("about(6)", x.about(6), 7);
        Due.due("alone", Due.told("person a of 0 cares 9;").pluck(), -1);
        x = Due.told(TWO);
        x.dye();
        x.pluck();
        Due.due("dyed no more", x.about(3), 0);
        Due.due("has does not count for the others", Due.told(TWO + "worry care*(1-has);").pluck(), 1);
    }

    private static void dye() {
        Due.part("14 dye");
        GreyHair x = Due.told(TWO + "grows house*9;");
        Due.due("dye()", x.dye(), 0);
        Due.due("dye()", x.dye(), -1);
        Due.due("about(3)", x.about(3), 1);
        Due.due("next()", x.next(), 0);
        x.day();
        x.dye();
        Due.due("it stays", x.day(), 0);
        Due.due("dyed no more", x.about(3), 0);
        Due.due("it goes", x.day(), 1);
        Due.due("on the brush", Due.told(TWO + "ease 99;").dye(), -1);
    }

    private static void undoAndRedo() {
        Due.part("15, 16 undo, redo");
        GreyHair x = Due.told(FOUR);
        Due.due("undo()", x.undo(), false);
        Due.due("redo()", x.redo(), false);
        x.day();
        x.tell(0, 1);
        x.dye();
        x.take(3, 5);
        x.pluck();
        Due.due("hair()", x.hair(), 0);
        Due.due("undo()", x.undo(), true);
        Due.due("hair()", x.hair(), 1);
        Due.due("about(3)", x.about(3), 1);
        Due.due("undo()", x.undo(), true);
        Due.due("person(3, 1)", x.person(3, 1), 8);
        Due.due("undo()", x.undo(), true);
        Due.due("about(3)", x.about(3), 0);
        Due.due("undo()", x.undo(), true);
        Due.due("person(0, 3)", x.person(0, 3), 0);
        Due.due("about(4)", x.about(4), 1);
        Due.due("undo()", x.undo(), true);
        Due.due("about(4)", x.about(4), 0);
        Due.due("about(5)", x.about(5), 9);
        Due.due("hair()", x.hair(), 0);
        Due.due("undo()", x.undo(), false);
        Due.due("about(7)", x.about(7), 5);
        for (int i = 0; i < 5; i++) {
            Due.due("redo()", x.redo(), true);
        }
        Due.due("redo()", x.redo(), false);
        Due.due("hair()", x.hair(), 0);
        Due.due("about(3)", x.about(3), 0);
        Due.due("person(3, 1)", x.person(3, 1), 13);
        Due.due("about(5)", x.about(5), 304);
        x.undo();
        x.undo();
        x.ease(0, 0);
        Due.due("what does nothing keeps redo", x.about(7), 2);
        x.ease(0, 1);
        Due.due("another act", x.redo(), false);
        Due.due("about(6)", x.about(6), 4);
    }

    private static void fortyActs() {
        Due.part("15, 16 forty acts");
        GreyHair x = Due.told("person a of 0 cares 0;grows 1;");
        for (int i = 0; i < 95; i++) {
            x.day();
        }
        Due.due("about(6)", x.about(6), 40);
        for (int i = 1; i <= 40; i++) {
            Due.due("undo()", x.undo(), true);
            Due.due("person(0, 1)", x.person(0, 1), 95 - i);
        }
        Due.due("the oldest are gone", x.undo(), false);
        Due.due("about(4)", x.about(4), 55);
        for (int i = 1; i <= 40; i++) {
            Due.due("redo()", x.redo(), true);
            Due.due("about(4)", x.about(4), 55 + i);
        }
        Due.due("redo()", x.redo(), false);
        x.undo();
        x.day();
        Due.due("about(6)", x.about(6), 40);
        Due.due("about(7)", x.about(7), 0);
    }

    private static void will() {
        Due.part("17 will");
        GreyHair x = Due.told(FOUR);
        for (int i = 0; i < 12; i++) {
            GreyHair other = Due.told(FOUR);
            for (int j = 0; j < i; j++) {
                other.day();
            }
            Due.due("will(" + i + ")", x.will(i), other.hair());
        }
        Due.due("will(60)", x.will(60), 1);
        Due.due("will(61)", x.will(61), -2);
        Due.due("will(-1)", x.will(-1), -2);
        Due.due("nothing is done", x.about(5), 9);
    }

    private static void cares() {
        Due.part("18 cares");
        GreyHair x = Due.told(GROWING);
        Due.due("cares(0, 0)", x.cares(0, 0), 5);
        Due.due("cares(1, 3)", x.cares(1, 3), 13);
        Due.due("cares(0, 6)", x.cares(0, 6), 15);
        Due.due("no news", Due.told(FOUR).cares(1, 60), 12);
        Due.due("cares(0, 61)", x.cares(0, 61), -1);
        Due.due("cares(0, -1)", x.cares(0, -1), -1);
        Due.due("cares(2, 0)", x.cares(2, 0), -1);
        Due.due("cares(-1, 0)", x.cares(-1, 0), -1);
        Due.due("nothing is done", x.about(4), 0);
    }

    private static void next() {
        Due.part("19 next");
        Due.due("no news", Due.told(FOUR).next(), 0);
        Due.due("GROWING", Due.told(GROWING).next(), 0);
        Due.due("on the brush", Due.told(TWO + "ease 99;").next(), -1);
        GreyHair x = Due.told(TWO + "grows house*20;");
        Due.due("it goes", x.next(), 1);
        x.dye();
        Due.due("it stays", x.next(), 0);
    }

    private static void spare() {
        Due.part("20 spare");
        GreyHair x = Due.told(FOUR);
        Due.due("spare(0, 1, 0)", x.spare(0, 1, 0), 2);
        Due.due("spare(0, 1, 1)", x.spare(0, 1, 1), 1);
        Due.due("spare(3, 20, 0)", x.spare(3, 20, 0), 0);
        Due.due("spare(3, 20, 1)", x.spare(3, 20, 1), 0);
        Due.due("the first other one", Due.told(TWO + "ease 99;").spare(0, 1, 1), 1);
        Due.due("the first can, too", Due.told("person a of 0 cares 8;person b of 0 cares 9;").spare(1, 1, 1), 0);
        Due.due("the first can, too", Due.told("person a of 0 cares 8;person b of 0 cares 9;").spare(1, 1, 0), 1);
        Due.due("spare(0, 0, 0)", x.spare(0, 0, 0), -1);
        Due.due("spare(0, 21, 0)", x.spare(0, 21, 0), -1);
        Due.due("spare(0, 1, 2)", x.spare(0, 1, 2), -1);
        Due.due("spare(4, 1, 0)", x.spare(4, 1, 0), -1);
        Due.due("spare(-1, 1, 0)", x.spare(-1, 1, 0), -1);
        Due.due("alone", Due.told("person a of 0 cares 0;").spare(0, 1, 0), -1);
        Due.due("nobody can", Due.told("person a of 0 cares 99;person b of 0 cares 1;").spare(0, 1, 0), -1);
        Due.due("no care lasts", Due.told("person a of 0 cares 0;person b of 0 cares 98;ease 0;grows 0-care;")
                .spare(0, 1, 0), -1);
        Due.due("up to 99", Due.told("person a of 0 cares 98;person b of 0 cares 0;").spare(0, 1, 0), 99);
        x = Due.told("person a of 0 cares 10;person b of 0 cares 10;person c of 0 cares 10;grows 0-has-(1-has)*2;");
        // the others lose one care more a day than who has it; from the first day on it must be another's
        Due.due("for one day", x.spare(0, 1, 0), 2);
        Due.due("by the first", x.spare(2, 1, 1), 0);
        x = Due.told("person a of 0 cares 50;person b of 1 cares 60;grows 0-house;");
        Due.due("of like ones the first has it", x.spare(0, 9, 0), 0);
        Due.due("ten days", x.spare(0, 10, 0), 1);
        Due.due("twenty days", x.spare(0, 20, 0), 11);
        x.dye();
        Due.due("dyed", x.spare(1, 1, 0), -1);
    }

    private static void easing() {
        Due.part("21 easing");
        GreyHair x = Due.told(FOUR);
        // dan, who knows of ann, worries less, too
        Due.due("easing(0)", x.easing(0), 2);
        Due.due("easing(1)", x.easing(1), 0);
        Due.due("easing(4)", x.easing(4), -1);
        Due.due("easing(-1)", x.easing(-1), -1);
        x = Due.told("person a of 0 cares 99;person b of 0 cares 0;knows b a;ease 1;");
        Due.due("nearly all", x.easing(0), 99);
        x = Due.told("person a of 0 cares 9;person b of 0 cares 0;ease 0;");
        Due.due("all his care is not enough", x.easing(0), -1);
        x = Due.told(TWO);
        x.dye();
        Due.due("dyed", x.easing(0), -1);
        Due.due("dyed", x.easing(1), 0);
    }

    private static void hush() {
        Due.part("22 hush");
        String three = "person a of 0 cares 10;person b of 0 cares 10;person c of 0 cares 10;"
                + "knows c b;knows a c;knows a b;knows b a;worry known;";
        GreyHair x = Due.told(three + "ease 15;");
        Due.due("hush(0)", x.hush(0), 1);
        Due.due("the least set", x.hush(1), 1);
        x = Due.told(three + "ease 10;");
        Due.due("all", x.hush(0), 4);
        Due.due("all", x.hush(1), 15);
        x = Due.told(three + "ease 21;");
        Due.due("none", x.hush(0), 0);
        Due.due("none", x.hush(1), 0);
        x = Due.told(three + "ease 0;");
        Due.due("all are not enough", x.hush(0), -1);
        Due.due("all are not enough", x.hush(1), -1);
        x = Due.told("person a of 0 cares 1;person b of 0 cares 2;person c of 0 cares 40;"
                + "knows a b;knows b c;knows c a;worry known;ease 9;");
        Due.due("the second alone", x.hush(1), 2);
        Due.due("hush(2)", x.hush(2), -1);
        Due.due("hush(-1)", x.hush(-1), -1);
        x.dye();
        Due.due("dyed", x.hush(0), -1);
        Due.due("nothing is done", x.about(1), 3);
        x = Due.told("person a of 0 cares 0;person b of 0 cares 8;knows a b;grows known*2;worry care;ease 9;");
        Due.due("what is forgotten does not grow", x.hush(0), 1);
        x = Due.told("person a of 0 cares 0;person b of 0 cares 8;knows a b;worry known*(day=1);");
        Due.due("by the next day", x.hush(0), 1);
        x = Due.told("person a of 0 cares 8;person b of 0 cares 8;knows a b;worry known*has;ease 4;");
        Due.due("nobody has it", x.hush(0), 0);
    }

    private static void knows() {
        Due.part("23 knows");
        GreyHair x = Due.told("person a of 0 cares 1;person b of 0 cares 2;person c of 0 cares 3;"
                + "knows c b;knows a c;knows c a;");
        int[][] wanted = {{0, 2}, {2, 0}, {2, 1}};
        for (int i = 0; i < 3; i++) {
            Due.due("knows(" + i + ", 0)", x.knows(i, 0), wanted[i][0]);
            Due.due("knows(" + i + ", 1)", x.knows(i, 1), wanted[i][1]);
        }
        Due.due("knows(3, 0)", x.knows(3, 0), -1);
        Due.due("knows(-1, 0)", x.knows(-1, 0), -1);
        Due.due("knows(0, 2)", x.knows(0, 2), -1);
        Due.due("knows(0, -1)", x.knows(0, -1), -1);
        x.tell(1, 0);
        Due.due("as there are now", x.knows(1, 0), 1);
    }

    private static void wed() {
        Due.part("24 wed");
        GreyHair x = Due.told("person a of 0 cares 10;person b of 0 cares 20;person c of 1 cares 5;"
                + "person d of 1 cares 30;");
        Due.due("wed()", x.wed(), 40);
        Due.lie(x, 3, 2, 1, 0);
        x = Due.told("person a of 0 cares 10;person b of 0 cares 10;person c of 1 cares 5;person d of 1 cares 5;");
        Due.due("of like ones the first", x.wed(), 15);
        Due.lie(x, 2, 3, 0, 1);
        x = Due.told("person a of 0 cares 10;person b of 0 cares 9;person c of 0 cares 9;person d of 1 cares 5;");
        Due.due("one is left", x.wed(), 14);
        Due.lie(x, -1, 3, -1, 1);
        x = Due.told("person d of 1 cares 5;person e of 1 cares 4;person f of 1 cares 4;person a of 0 cares 10;");
        Due.due("two are left", x.wed(), 14);
        Due.lie(x, -1, 3, -1, 1);
        x = Due.told("person a of 0 cares 1;person b of 0 cares 9;person c of 0 cares 5;person d of 1 cares 9;"
                + "person e of 1 cares 0;");
        // b must not have d; a and c may have d: 10 for a, else 14; b or c has e then: 9 or 5
        Due.due("two of three", x.wed(), 10);
        Due.lie(x, 3, 4, -1, 0, 1);
        x = Due.told("person a of 0 cares 0;person b of 1 cares 0;");
        Due.due("no care", x.wed(), 0);
        Due.lie(x, 1, 0);
        x = Due.told("person a of 1 cares 1;person b of 1 cares 2;person c of 1 cares 3;person d of 0 cares 3;"
                + "person e of 0 cares 2;person f of 0 cares 1;");
        Due.due("three twos", x.wed(), 4);
        Due.lie(x, 3, 4, 5, 0, 1, 2);
        Due.due("no two", Due.told("person a of 0 cares 1;person b of 0 cares 9;").wed(), -1);
        x = Due.told("person a of 1 cares 1;");
        x.rank();
        Due.due("no two", x.wed(), -1);
        Due.lie(x);
        x = Due.told(TWO);
        x.take(0, 9);
        Due.due("by cares now", x.wed(), 59);
    }

    private static void nightsAndReturns() {
        Due.part("25, 26 nights, returns");
        GreyHair x = Due.told(GROWING);
        Due.due("nights(0, 0)", x.nights(0, 0), 0);
        Due.due("nights(0, 2)", x.nights(0, 2), 2);
        Due.due("nights(0, 5)", x.nights(0, 5), 2);
        Due.due("nights(1, 5)", x.nights(1, 5), 3);
        Due.due("nights(0, 61)", x.nights(0, 61), -1);
        Due.due("nights(0, -1)", x.nights(0, -1), -1);
        Due.due("nights(2, 1)", x.nights(2, 1), -1);
        Due.due("nights(-1, 1)", x.nights(-1, 1), -1);
        Due.due("returns(0)", x.returns(0), 1);
        Due.due("returns(1)", x.returns(1), 3);
        Due.due("returns(2)", x.returns(2), -1);
        Due.due("returns(-1)", x.returns(-1), -1);
        x = Due.told("person a of 0 cares 90;person b of 1 cares 31;grows house;");
        Due.due("behind 60", x.returns(1), 60);
        Due.due("nights(0, 60)", x.nights(0, 60), 59);
        x.ease(1, 1);
        Due.due("never in 60", x.returns(1), -1);
    }

    private static void rank() {
        Due.part("27 rank");
        GreyHair x = Due.told("person a of 0 cares 5;person b of 0 cares 9;person c of 0 cares 5;"
                + "person d of 0 cares 9;person e of 0 cares 10;");
        Due.due("rank()", x.rank(), 5);
        Due.lie(x, 4, 1, 3, 0, 2);
        x.tell(2, 4);
        x.rank();
        Due.lie(x, 2, 4, 1, 3, 0);
    }

    private static void words() {
        Due.part("28 words");
        // a has it; b (20) needs 11 more: of a (15) alone is enough, of c (2) is not; c can't at all
        GreyHair x = Due.told(TWO + "person c of 0 cares 2;");
        Due.due("words()", x.words(), 1);
        x.tell(1, 0);
        // now b has it with 35: a needs 6 more, b's 20 are enough
        Due.due("words()", x.words(), 1);
        x.dye();
        Due.due("dyed on a", x.words(), 0);
        x = Due.told("person a of 0 cares 9;person b of 1 cares 8;grows house*2;");
        Due.due("b has it tomorrow without a word, a by one", x.words(), 1);
        StringBuilder text = new StringBuilder("person p of 0 cares 40;");
        for (int i = 1; i < 6; i++) {
            text.append("person ").append((char) ('p' + i)).append(" of 0 cares 1;");
        }
        text.append("worry care+known;");
        int[][] pairs = {{1, 2}, {1, 3}, {1, 4}, {2, 1}, {2, 3}, {2, 4}, {3, 1}, {3, 2}, {3, 4}, {4, 1}, {4, 2},
            {4, 3}};
        for (int[] p : pairs) {
            text.append("knows ").append((char) ('p' + p[0])).append(' ').append((char) ('p' + p[1])).append(';');
        }
        Due.due("however many know", Due.told(text.toString()).words(), 5);
    }

    private static void peaceAndBurden() {
        Due.part("29, 30 peace, burden");
        GreyHair x = Due.told("person a of 0 cares 60;person b of 1 cares 50;grows 0-1;");
        Due.due("peace()", x.peace(), 60);
        Due.due("burden(0)", x.burden(0), 110);
        Due.due("burden(10)", x.burden(10), 90);
        Due.due("burden(60)", x.burden(60), 0);
        Due.due("burden(61)", x.burden(61), -1);
        Due.due("burden(-1)", x.burden(-1), -1);
        x.take(0, 1);
        Due.due("never in 60", x.peace(), -1);
        Due.due("now", Due.told(TWO + "ease 50;").peace(), 0);
        x = Due.told("person a of 0 cares 2;grows 0-2;");
        Due.due("tomorrow", x.peace(), 1);
        x.dye();
        Due.due("dyed", x.peace(), 2);
    }

    private static void calm() {
        Due.part("31 calm");
        Due.due("one more", Due.told(TWO).calm(), 31);
        Due.due("behind the next day", Due.told(TWO + "grows 9;").calm(), 40);
        Due.due("by the next day", Due.told(TWO + "worry 7+day;").calm(), 9);
        Due.due("999", Due.told(TWO + "worry 998;").calm(), 999);
        Due.due("none", Due.told(TWO + "worry 999;").calm(), -1);
        Due.due("no worry", Due.told(TWO + "worry 0;").calm(), 1);
        Due.due("nobody", new GreyHair().calm(), 0);
        GreyHair x = Due.told(TWO);
        x.dye();
        Due.due("dyed", x.calm(), -1);
    }

    private static void law() {
        Due.part("32 law");
        GreyHair x = Due.told(TWO);
        int[][] wanted = {{0, 2}, {20, 2}, {21, 1}, {30, 1}, {31, 0}, {999, 0}, {1000, -1}, {-1, -1}};
        for (int[] w : wanted) {
            Due.due("law(" + w[0] + ")", x.law(w[0]), w[1]);
        }
    }

    private static void odds() {
        Due.part("33 odds");
        GreyHair x = Due.told("person a of 0 cares 20;person b of 0 cares 15 news 25 of 10;"
                + "person c of 1 cares 15 news 40 of 20;ease 10;");
        // c: 40 in 100 (35); else b: 25 of the other 60 (25); else a
        int[][] wanted = {{0, 9, 20}, {1, 3, 20}, {2, 2, 5}, {-1, 0, 1}};
        for (int[] w : wanted) {
            Due.due("odds(" + w[0] + ", 0)", x.odds(w[0], 0), w[1]);
            Due.due("odds(" + w[0] + ", 1)", x.odds(w[0], 1), w[2]);
        }
        Due.due("odds(3, 0)", x.odds(3, 0), -1);
        Due.due("odds(-2, 0)", x.odds(-2, 0), -1);
        Due.due("odds(0, 2)", x.odds(0, 2), -1);
        Due.due("odds(0, -1)", x.odds(0, -1), -1);
        x.dye();
        Due.due("dyed", x.odds(0, 0), 1);
        Due.due("dyed", x.odds(0, 1), 1);
        x = Due.told("person a of 0 cares 0 news 1 of 1;person b of 0 cares 0 news 1 of 1;"
                + "person c of 0 cares 0 news 1 of 1;person d of 0 cares 0 news 1 of 1;");
        Due.due("the brush", x.odds(-1, 0), 99 * 99 * 99 * 99);
        Due.due("the brush", x.odds(-1, 1), 100000000);
        Due.due("the first of like ones", x.odds(0, 1), 100);
        Due.due("d", x.odds(3, 0), 99 * 99 * 99);
        x = Due.told("person a of 0 cares 50;person b of 0 cares 45 news 50 of 20;grows 0-(care>90);worry care%99;");
        x.take(1, 9);
        Due.due("grown ahead of news", x.odds(1, 1), 1);
        x = Due.told("person a of 0 cares 98;person b of 0 cares 90 news 50 of 20;");
        Due.due("99 at most", x.odds(1, 0), 1);
        Due.due("99 at most", x.odds(1, 1), 2);
    }

    private static void duel() {
        Due.part("34 duel");
        GreyHair x = Due.told("person a of 0 cares 20;person b of 0 cares 5;");
        Due.due("duel(0, 1)", x.duel(0, 1), 1);
        Due.lie(x, 0, 0);
        x = Due.told("person a of 0 cares 20;person b of 0 cares 15;");
        // b could outdo a by up to 9 (24), a would then take on 4: no rest
        Due.due("duel(0, 1)", x.duel(0, 1), 0);
        Due.lie(x);
        x.rank();
        Due.due("duel(0, 0)", x.duel(0, 0), -1);
        Due.lie(x);
        Due.due("duel(0, 2)", x.duel(0, 2), -1);
        Due.due("duel(-1, 0)", x.duel(-1, 0), -1);
        x = Due.told("person a of 0 cares 20;person b of 0 cares 14;person c of 0 cares 3;");
        // c can't; b must take on 7 to have it from a
        Due.due("duel(1, 2)", x.duel(1, 2), 1);
        Due.lie(x, 7, 0);
        Due.due("duel(2, 1)", x.duel(2, 1), 1);
        Due.lie(x, 0, 7);
        x = Due.told("person a of 0 cares 9;person b of 1 cares 9;worry 5+(house=0);");
        Due.due("a has it anyhow", x.duel(1, 0), 1);
        Due.lie(x, 0, 0);
        x = Due.told("person a of 0 cares 99;person b of 1 cares 1;");
        Due.due("99 at most: less is better", x.duel(0, 1), 1);
        Due.lie(x, 0, 0);
        x = Due.told("person a of 0 cares 0;person b of 0 cares 0;ease 1;worry care>0 and known+care<4;"
                + "knows a b;knows b a;");
        // a by 1 has it unless b takes on 3 or more; b has it only where a takes on 0
        Due.due("the first has it", x.duel(0, 1), 1);
        Due.lie(x, 1, 0);
        x = Due.told("person a of 0 cares 0;person b of 0 cares 0;knows a b;knows b a;worry care*(known=0);");
        Due.due("who takes on some first keeps the other from it", x.duel(0, 1), 2);
        Due.lie(x, 0, 1);
    }

    private static void path() {
        Due.part("35 path");
        GreyHair x = Due.told(GROWING);
        Due.due("path(6)", x.path(6), 0);
        Due.lie(x, 0, 0, 1, 1, 1, 0);
        Due.due("path(0)", x.path(0), -1);
        Due.lie(x);
        Due.due("path(1)", x.path(1), 0);
        Due.lie(x, 0);
        Due.due("path(7)", x.path(7), -1);
        Due.lie(x);
        x = Due.told("person a of 0 cares 2;grows 0-1;");
        Due.due("path(4)", x.path(4), 3);
        Due.lie(x, 0, -1, -1, -1);
    }

    private static void silence() {
        Due.part("36 silence");
        String text = "person a of 0 cares 10;person b of 0 cares 4;person c of 0 cares 6;person d of 1 cares 20;"
                + "knows a b;knows a c;knows a d;worry care+known;";
        GreyHair x = Due.told(text + "ease 25;");
        // 40 as it is: without d 20, less than ease
        Due.due("silence(0, 0)", x.silence(0, 0), 1);
        Due.due("silence(0, 1)", x.silence(0, 1), 8);
        Due.due("silence(1, 0)", x.silence(1, 0), 0);
        Due.due("silence(1, 1)", x.silence(1, 1), 0);
        x = Due.told(text);
        // d worries 20: a must be below, or d is not the first
        Due.due("silence(0, 0)", x.silence(0, 0), 2);
        Due.due("the least set", x.silence(0, 1), 10);
        x.take(0, 9);
        x.take(0, 2);
        Due.due("all are not enough", x.silence(0, 0), -1);
        Due.due("all are not enough", x.silence(0, 1), -1);
        Due.due("silence(0, 2)", x.silence(0, 2), -1);
        Due.due("silence(4, 0)", x.silence(4, 0), -1);
        Due.due("silence(-1, 0)", x.silence(-1, 0), -1);
        Due.due("nothing is done", x.about(1), 3);
    }

    private static void aloneAndHeaviest() {
        Due.part("37, 38 alone, heaviest");
        GreyHair x = Due.told(TWO);
        Due.due("both", x.alone(), 3);
        x = Due.told(FOUR + "person eve of 1 cares 20;");
        Due.due("alone()", x.alone(), 16);
        x.forget(1, 2);
        Due.due("alone()", x.alone(), 22);
        Due.due("heaviest()", x.heaviest(), 0);
        x.take(4, 1);
        Due.due("heaviest()", x.heaviest(), 4);
        Due.due("nobody", new GreyHair().heaviest(), -1);
        Due.due("no care", Due.told("person a of 0 cares 0;").heaviest(), 0);
    }

    private static void lies() {
        Due.part("39 lies");
        GreyHair x = Due.told(FOUR);
        Due.lie(x);
        x.rank();
        Due.lie(x, 0, 1, 3, 2);
        x.day();
        x.undo();
        x.image(0);
        x.back(0);
        x.hush(0);
        Due.lie(x, 0, 1, 3, 2);
        Due.due("lies(LOW)", x.lies(LOW), -2);
        Due.due("lies(HIGH)", x.lies(HIGH), -2);
    }

    private static void seen() {
        Due.part("40, 41 seen, untell");
        GreyHair x = Due.told(TWO);
        Due.due("seen(-1, 0, true)", x.seen(-1, 0, true), -1);
        Due.due("seen(10, 0, true)", x.seen(10, 0, true), -1);
        Due.due("seen(0, 2, true)", x.seen(0, 2, true), -1);
        Due.due("seen(0, -2, true)", x.seen(0, -2, true), -1);
        for (int i = 0; i < 30; i++) {
            Due.due("seen", x.seen(i % 10, i % 3 - 1, i % 2 == 0), i);
        }
        Due.due("there are 30", x.seen(0, 0, true), -1);
        Due.due("about(8)", x.about(8), 30);
        Due.due("untell(30)", x.untell(30), false);
        Due.due("untell(-1)", x.untell(-1), false);
        Due.due("untell(29)", x.untell(29), true);
        Due.due("untell(29)", x.untell(29), false);
        Due.due("there are 30 all the same", x.seen(0, 0, true), -1);
        Due.due("about(8)", x.about(8), 30);
        Due.due("no persons", new GreyHair().seen(0, -1, true), -1);
        Due.due("no persons", new GreyHair().untell(0), false);
    }

    private static void time() {
        Due.part("42 later");
        GreyHair x = new GreyHair();
        Due.due("later(0)", x.later(0), 0);
        Due.due("later(1001)", x.later(1001), -1);
        Due.due("later(-1)", x.later(-1), -1);
        Due.due("later(HIGH)", x.later(HIGH), -1);
        for (int i = 1; i < 100; i++) {
            Due.due("later(1000)", x.later(1000), 1000 * i);
        }
        Due.due("later(999)", x.later(999), 99999);
        Due.due("later(2)", x.later(2), -1);
        Due.due("later(1)", x.later(1), 100000);
        Due.due("later(1)", x.later(1), -1);
        Due.due("about(9)", x.about(9), 100000);
    }

    private static void fits() {
        Due.part("43, 44 fits, sure");
        // b's care c is not known: a has it at first if c <= 30; b's grows by 1 a day
        GreyHair x = Due.told("person a of 0 cares 30;person b of 1 cares 20 news 100 of 20;grows house;ease 5;");
        Due.due("fits(0)", x.fits(0), 100);
        x.day();
        x.take(0, 9);
        x.tell(0, 1);
        Due.due("seen(0, 0, true)", x.seen(0, 0, true), 0);
        Due.due("as it was told", x.fits(0), 31);
        Due.due("sure(0, 0)", x.sure(0, 0), 0);
        Due.due("sure(1, 0)", x.sure(1, 0), 30);
        Due.due("before it was told", x.fits(-1), 100);
        x.later(5);
        Due.due("seen(9, 1, true)", x.seen(9, 1, true), 1);
        Due.due("fits(5)", x.fits(5), 9);
        Due.due("sure(0, 5)", x.sure(0, 5), 22);
        Due.due("sure(1, 5)", x.sure(1, 5), 30);
        Due.due("fits(4)", x.fits(4), 31);
        Due.due("fits(HIGH)", x.fits(HIGH), 9);
        Due.due("fits(LOW)", x.fits(LOW), 100);
        x.later(5);
        Due.due("untell(0)", x.untell(0), true);
        Due.due("fits(10)", x.fits(10), 78);
        Due.due("sure(1, 10)", x.sure(1, 10), 99);
        Due.due("fits(9)", x.fits(9), 9);
        Due.due("seen(1, 0, false)", x.seen(1, 0, false), 2);
        Due.due("was not", x.fits(10), 70);
        Due.due("told and untold at one time", x.untell(2), true);
        Due.due("fits(10)", x.fits(10), 78);
        Due.due("seen(3, -1, true)", x.seen(3, -1, true), 3);
        Due.due("none fits", x.fits(10), 0);
        Due.due("sure(0, 10)", x.sure(0, 10), -1);
        Due.due("sure(1, 10)", x.sure(1, 10), -1);
        Due.due("sure(2, 0)", x.sure(2, 0), -1);
        x = Due.told("person a of 0 cares 40;");
        x.seen(0, -1, true);
        Due.due("none but 0", x.fits(0), 1);
        Due.due("sure(0, 0)", x.sure(0, 0), 0);
        Due.due("sure(1, 0)", x.sure(1, 0), 0);
        x = Due.told("person a of 0 cares 98;person b of 0 cares 9;");
        x.seen(0, 1, true);
        Due.due("none but 99", x.fits(0), 1);
        Due.due("sure(0, 0)", x.sure(0, 0), 99);
        Due.due("sure(1, 0)", x.sure(1, 0), 99);
        Due.due("sure(-1, 0)", x.sure(-1, 0), -1);
    }

    private static void ask() {
        Due.part("45 ask");
        GreyHair x = Due.told("person a of 0 cares 45;person b of 1 cares 20;grows 0-house;");
        // day d: a has it if c - d <= 45, of 46 + d cares: day 4 halves them
        Due.due("ask(0, 0)", x.ask(0, 0), 4);
        Due.due("ask(1, 0)", x.ask(1, 0), 50);
        Due.due("ask(2, 0)", x.ask(2, 0), -1);
        Due.due("ask(-1, 0)", x.ask(-1, 0), -1);
        x.later(1);
        x.seen(4, 0, true);
        Due.due("as known before", x.ask(0, 0), 4);
        // 0 .. 49: day 0 leaves 46 and 4
        Due.due("ask(0, 1)", x.ask(0, 1), 0);
        Due.due("ask(1, 1)", x.ask(1, 1), 46);
        GreyHair six = Due.told("person a of 0 cares 9;person b of 0 cares 9;person c of 0 cares 9;"
                + "person d of 0 cares 9;person e of 0 cares 9;person f of 0 cares 9;worry care*(1-day)*house+care;");
        Due.due("the sixth, as well", six.ask(0, 0), 0);
        Due.due("the sixth, as well", six.ask(1, 0), 90);
        x.seen(4, 1, true);
        Due.due("none fits", x.ask(0, 1), -1);
        Due.due("none fits", x.ask(1, 1), -1);
    }

    private static void boxes() {
        Due.part("46, 47 image, back");
        GreyHair x = Due.told(FOUR);
        Due.due("back(0)", x.back(0), -1);
        x.day();
        x.tell(0, 1);
        x.dye();
        Due.due("image(2)", x.image(2), 1);
        Due.due("not an act", x.about(6), 3);
        Due.due("image(3)", x.image(3), -1);
        Due.due("image(-1)", x.image(-1), -1);
        x.seen(0, 0, true);
        x.rank();
        x.day();
        x.forget(0, 1);
        x.take(2, 9);
        x.undo();
        Due.due("back(0)", x.back(0), -1);
        Due.due("back(3)", x.back(3), -1);
        Due.due("back(-1)", x.back(-1), -1);
        Due.due("about(7)", x.about(7), 1);
        Due.due("back(2)", x.back(2), 1);
        Due.due("hair()", x.hair(), 1);
        Due.due("about(3)", x.about(3), 1);
        Due.due("about(4)", x.about(4), 1);
        Due.due("about(5)", x.about(5), 304);
        Due.due("about(6)", x.about(6), 0);
        Due.due("about(7)", x.about(7), 0);
        Due.due("about(8)", x.about(8), 1);
        Due.due("about(12)", x.about(12), 4);
        Due.due("person(0, 3)", x.person(0, 3), 2);
        Due.due("person(1, 1)", x.person(1, 1), 22);
        x.take(1, 9);
        Due.due("undo()", x.undo(), true);
        Due.due("it is kept on", x.back(2), 1);
        Due.due("image(0)", x.image(0), 1);
        x.day();
        Due.due("image(1)", x.image(1), 2);
        Due.due("kept anew", x.image(2), 2);
        x.day();
        Due.due("back(2)", x.back(2), 2);
        Due.due("back(0)", x.back(0), 1);
        Due.due("back(1)", x.back(1), 2);
    }

    private static void about() {
        Due.part("48 about");
        GreyHair x = Due.told(FOUR + "worry (care+1)*2;grows not has;");
        x.day();
        x.day();
        x.dye();
        x.undo();
        x.undo();
        x.dye();
        x.ease(0, 1);
        x.undo();
        x.seen(0, 0, true);
        x.later(3);
        x.feed(0, 0, 0, 0, 0);
        x.path(2);
        int[] wanted = {4, 2, 10, 1, 1, 304, 2, 1, 1, 3, 20, 5, 2};
        for (int i = 0; i < wanted.length; i++) {
            Due.due("about(" + i + ")", x.about(i), wanted[i]);
        }
        Due.due("about(13)", x.about(13), -1);
        Due.due("about(-1)", x.about(-1), -1);
    }
}
