/**
 * Boundary cases of what is and of acts, sentence by sentence: "==== 2", promises 6 to 16 and 46 to 48.
 * Each method has one sentence of the document, which stands in its part.
 */
public final class ActBoundsTest {
    private static final int LOW = Integer.MIN_VALUE;
    private static final int HIGH = Integer.MAX_VALUE;
    private static final String MOST_INT = "9999*9999*21+9999*4790+8416";
    private static final String LEAST_INT = "0-9999*9999*21-9999*4790-8417";

    public static void main(String[] args) {
        worries();
        hairGoes();
        days();
        news();
        personAnswers();
        dayAnswers();
        easeAndTake();
        tellAndForget();
        pluckAndDye();
        undoAndRedo();
        boxes();
        about();
        Due.finish();
    }

    private static void worries() {
        careAndHalfOfKnown();
        knownTogether();
        hasOrNot();
        houseAndDay();
        wrapping();
        cut();
        itsRest();
        byZero();
        oneOrZero();
        whichFirst();
        zeroAtLeast999AtMost();
    }

    private static void hairGoes() {
        toTheMostWorried();
        toTheFirstOfLikeOnes();
        asMuchAsEase();
        atFirst();
    }

    private static void days() {
        growsNotTold();
        byWhatIsSoAhead();
        theSumWraps();
        inTheEnd();
        theDayGoesUp();
        dyedItStays();
    }

    private static void news() {
        thenNews();
        theSeed();
        lessThanTold();
        soMuchMore();
        personByPerson();
    }

    private static void personAnswers() {
        anotherPersonOrWhat();
        asBits();
        withoutNews();
    }

    private static void dayAnswers() {
        brushOrPerson();
        behind999();
        aDayIsAnAct();
    }

    private static void easeAndTake() {
        easedOfSome();
        easedZeroAtLeast();
        easeRefused();
        takesOnSome();
        takes99AtMost();
        takeRefused();
        theHairStays();
    }

    private static void tellAndForget() {
        hisWorryThen();
        ifHeKnows();
        ifBothAreOne();
        ifThereAreTwelve();
        tellOneThatCannotBe();
        ifHeDoesNotKnow();
        forgetOneThatCannotBe();
    }

    private static void pluckAndDye() {
        notToHimWhoHasIt();
        ofTheOthersAlone();
        plucksOnTheBrush();
        dyedNoMore();
        dyesIfDyed();
        dyesOnTheBrush();
    }

    private static void undoAndRedo() {
        undoneOneByOne();
        noneToUndo();
        noneToRedo();
        tillAnotherAct();
        refusedIsNoAct();
        fortyAreKept();
        fortyOneAreNot();
        actsBehindUndo();
        redoOfForty();
    }

    private static void boxes() {
        keptInABox();
        imageRefused();
        allIsAsKept();
        notKept();
        noActsBehindBack();
        backRefused();
        keptAnewAndOn();
    }

    private static void about() {
        aboutAtFirst();
        aboutAtMost();
        aboutAnotherWhat();
        calls512();
    }

    private static GreyHair first(String formula) {
        return Due.told("person a of 1 cares 7;person b of 0 cares 20;knows a b;ease 999;worry " + formula + ";");
    }

    private static void worry(String formula, int wanted) {
        Due.due(formula, first(formula).person(0, 2), wanted);
    }

    private static void careAndHalfOfKnown() {
        Due.part("==== 2: care and half of known, cut, if it is not told");
        int[][] all = {{0, 0, 0}, {0, 1, 0}, {0, 2, 1}, {0, 3, 1}, {5, 0, 5}, {99, 99, 148}, {99, 98, 148}};
        for (int[] one : all) {
            Due.due("care " + one[0] + ", known " + one[1],
                    Due.told(Due.cares(one[0], one[1]) + Due.knows("ab")).person(0, 2), one[2]);
        }
        Due.due("half of all together", Due.told(Due.cares(0, 1, 1) + Due.knows("ab", "ac")).person(0, 2), 1);
        Due.due("the most", Due.told(Due.cares(99, 99, 99, 99, 99, 99) + Due.knows("fa", "fb", "fc", "fd", "fe"))
                .person(5, 2), 99 + 247);
    }

    private static void knownTogether() {
        Due.part("==== 2: known (cares of all of whose he knows together)");
        String six = Due.cares(1, 2, 4, 8, 16, 32) + "worry known;";
        Due.due("of nobody", Due.told(six).person(0, 2), 0);
        Due.due("of the first", Due.told(six + Due.knows("fa")).person(5, 2), 1);
        Due.due("of the last", Due.told(six + Due.knows("af")).person(0, 2), 32);
        Due.due("of all others", Due.told(six + Due.knows("ab", "ac", "ad", "ae", "af")).person(0, 2), 62);
        Due.due("of all others", Due.told(six + Due.knows("fa", "fb", "fc", "fd", "fe")).person(5, 2), 31);
        Due.due("whose he is known of do not count", Due.told(six + Due.knows("ba", "ca")).person(0, 2), 0);
    }

    private static void hasOrNot() {
        Due.part("==== 2: has (1 if he has the hair, else 0)");
        GreyHair x = Due.told(Due.cares(3, 3) + "worry care*10+has;");
        Due.due("he has it", x.person(0, 2), 31);
        Due.due("he has it not", x.person(1, 2), 30);
        x.pluck();
        Due.due("he has it no more", x.person(0, 2), 30);
        Due.due("he has it", x.person(1, 2), 31);
        x = Due.told(Due.cares(3, 3) + "worry care*10+has;ease 999;");
        Due.due("on the brush", x.person(0, 2), 30);
    }

    private static void houseAndDay() {
        Due.part("==== 2: house, day (0 at first)");
        GreyHair x = Due.told("person a of 0 cares 1;person b of 1 cares 1;worry house*100+day;ease 999;");
        Due.due("house 0, day 0", x.person(0, 2), 0);
        Due.due("house 1, day 0", x.person(1, 2), 100);
        x.day();
        Due.due("house 0, day 1", x.person(0, 2), 1);
        Due.due("house 1, day 1", x.person(1, 2), 101);
    }

    private static void wrapping() {
        Due.part("==== 2: ints, wrapping");
        worry(MOST_INT + ">0", 1);
        worry(MOST_INT + "+1<0", 1);
        worry(LEAST_INT + "<0", 1);
        worry(LEAST_INT + "-1>0", 1);
        worry("(" + MOST_INT + ")+1=" + LEAST_INT, 1);
        worry("8192*8192*31>0", 1);
        worry("8192*8192*32<0", 1);
        worry("8192*8192*64=0", 1);
        worry("8192*8192*64+5", 5);
        worry("0-(" + LEAST_INT + ")<0", 1);
    }

    private static void cut() {
        Due.part("==== 2: / cut");
        worry("7/2", 3);
        worry("50-(0-7)/2", 53);
        worry("50-7/(0-2)", 53);
        worry("50-(0-7)/(0-2)", 47);
        worry("50-(0-1)/2", 50);
        worry("1/2", 0);
        worry("8/8", 1);
        worry("100/7/2", 7);
        worry("(" + LEAST_INT + ")/(0-1)=" + LEAST_INT, 1);
    }

    private static void itsRest() {
        Due.part("==== 2: % its rest");
        worry("7%4", 3);
        worry("50-(0-7)%4", 53);
        worry("50-7%(0-4)", 47);
        worry("50-(0-7)%(0-4)", 53);
        worry("8%8", 0);
        worry("7%8", 7);
        worry("((" + LEAST_INT + ")%(0-1))=0", 1);
    }

    private static void byZero() {
        Due.part("==== 2: / and % both by 0: 0");
        worry("5/0", 0);
        worry("7+5/0", 7);
        worry("7+0/0", 7);
        worry("7+(0-5)/0", 7);
        worry("7+5%0", 7);
        worry("7+0%0", 7);
        worry("7+(0-5)%0", 7);
        worry("7+5/(care-7)", 7);
        worry("7+5%(care-7)", 7);
        worry("7+5/0*3", 7);
        worry("7+5%0%0", 7);
    }

    private static void oneOrZero() {
        Due.part("==== 2: relations, and, or, not are 1 or 0, of what is not 0");
        int[][] twos = {{0, 0}, {0, 1}, {1, 0}, {1, 1}, {2, 1}, {4, 2}, {7, 7}, {3, 9999}};
        for (int[] t : twos) {
            worry(t[0] + "<" + t[1], t[0] < t[1] ? 1 : 0);
            worry(t[0] + ">" + t[1], t[0] > t[1] ? 1 : 0);
            worry(t[0] + "=" + t[1], t[0] == t[1] ? 1 : 0);
            worry(t[0] + " and " + t[1], t[0] != 0 && t[1] != 0 ? 1 : 0);
            worry(t[0] + " or " + t[1], t[0] != 0 || t[1] != 0 ? 1 : 0);
            worry("not " + t[1], t[1] == 0 ? 1 : 0);
        }
        worry("0-5 and 0-3", 1);
        worry("0-5 or 0", 1);
        worry("0 or 0-5", 1);
        worry("not 0-5", 0);
        worry("5+(0-5<0-4)*2", 7);
        worry("(" + LEAST_INT + ")<" + MOST_INT, 1);
        worry("(" + LEAST_INT + ")>" + MOST_INT, 0);
        worry("0 or 0 or 3", 1);
        worry("3 and 3 and 0", 0);
        worry("5+(0 and 1)", 5);
        worry("5+(0 or 0)", 5);
        worry("5+(not 1)", 5);
        worry("5+(1<1)", 5);
        worry("5+(1>1)", 5);
        worry("5+(1=2)", 5);
    }

    private static void whichFirst() {
        Due.part("Terms: e = both {or both}, both = one {and one}, one, sum, term, unit");
        worry("1 or 1 and 0", 1);
        worry("0 and 0 or 1", 1);
        worry("(1 or 1) and 0", 0);
        worry("not 0 and 0", 0);
        worry("not 1 or 1", 1);
        worry("not (1 or 1)", 0);
        worry("not 2<1", 1);
        worry("(not 2)<1", 1);
        worry("not 0=0", 0);
        worry("2<1 or 1<2", 1);
        worry("1+1=2", 1);
        worry("1+(1=2)", 1);
        worry("2+3*4", 14);
        worry("2*3+4", 10);
        worry("20-8-4", 8);
        worry("20-(8-4)", 16);
        worry("100/10*10", 100);
        worry("100%30/2", 5);
        worry("2*100%30", 20);
    }

    private static void zeroAtLeast999AtMost() {
        Due.part("==== 2: worry 0 at least, 999 at most");
        worry("0-1", 0);
        worry("0", 0);
        worry("1", 1);
        worry("998", 998);
        worry("999", 999);
        worry("1000", 999);
        worry("9999", 999);
        worry(MOST_INT, 999);
        worry(LEAST_INT, 0);
    }

    private static void toTheMostWorried() {
        Due.part("==== 2: the hair goes to the person of most worry");
        for (int most = 0; most < 6; most++) {
            int[] cares = {5, 5, 5, 5, 5, 5};
            cares[most] = 6;
            Due.due("hair()", Due.told(Due.cares(cares)).hair(), most);
        }
        Due.due("one alone", Due.told(Due.cares(1)).hair(), 0);
        Due.due("nobody", Due.told("").hair(), -1);
    }

    private static void toTheFirstOfLikeOnes() {
        Due.part("==== 2: of like ones to the first");
        Due.due("all", Due.told(Due.cares(5, 5, 5, 5, 5, 5)).hair(), 0);
        Due.due("the second, too", Due.told(Due.cares(4, 5, 5)).hair(), 1);
        Due.due("the last two", Due.told(Due.cares(0, 0, 0, 0, 5, 5)).hair(), 4);
        Due.due("999 at most are alike", Due.told(Due.cares(10, 99) + "worry care*100;").hair(), 0);
        Due.due("0 at least are alike", Due.told(Due.cares(9, 1) + "worry 0-care;ease 0;").hair(), 0);
    }

    private static void asMuchAsEase() {
        Due.part("==== 2: if that is as much as ease at least; else it lies on the brush");
        Due.due("one more", Due.told(Due.cares(3, 30) + "ease 29;").hair(), 1);
        Due.due("as much", Due.told(Due.cares(3, 30) + "ease 30;").hair(), 1);
        Due.due("one less", Due.told(Due.cares(3, 30) + "ease 31;").hair(), -1);
        Due.due("ease not told, 1", Due.told(Due.cares(0, 1)).hair(), 1);
        Due.due("ease not told, 0", Due.told(Due.cares(0, 0)).hair(), -1);
        Due.due("ease 0", Due.told(Due.cares(0, 0) + "ease 0;").hair(), 0);
        Due.due("ease 0, nobody", Due.told("ease 0;").hair(), -1);
        Due.due("ease 999", Due.told(Due.cares(0, 0) + "ease 999;worry 999;").hair(), 0);
        Due.due("ease 999 and more worry", Due.told(Due.cares(0, 0) + "ease 999;worry 9999;").hair(), 0);
        Due.due("ease 999 and 998", Due.told(Due.cares(0, 0) + "ease 999;worry 998;").hair(), -1);
    }

    private static void atFirst() {
        Due.part("==== 2: at first it lies there, and goes at once");
        Due.due("nobody has it ahead of that", Due.told(Due.cares(5, 5) + "worry has*9;").hair(), -1);
        GreyHair x = Due.told(Due.cares(5, 5) + "worry 9-has*9;");
        Due.due("the first has it", x.hair(), 0);
        Due.due("and worries no more", x.person(0, 2), 0);
        Due.due("no day is gone", x.about(4), 0);
        Due.due("no act", x.about(6), 0);
    }

    private static void growsNotTold() {
        Due.part("==== 2: grows (0, if it is not told)");
        GreyHair x = Due.told(Due.cares(0, 50, 99) + Due.knows("ab", "bc"));
        x.day();
        Due.due("0", x.person(0, 1), 0);
        Due.due("50", x.person(1, 1), 50);
        Due.due("99", x.person(2, 1), 99);
    }

    private static void byWhatIsSoAhead() {
        Due.part("==== 2: all by what is so ahead of this");
        GreyHair x = Due.told(Due.cares(3, 5, 7) + Due.knows("ab", "bc", "ca") + "grows known;");
        x.day();
        Due.due("a", x.person(0, 1), 8);
        Due.due("b", x.person(1, 1), 12);
        Due.due("c", x.person(2, 1), 10);
        x = Due.told(Due.cares(9, 9) + "grows has*5-day;");
        x.day();
        Due.due("who had it, on day 0", x.person(0, 1), 14);
        Due.due("who had it not, on day 0", x.person(1, 1), 9);
        x.day();
        Due.due("who had it, on day 1", x.person(0, 1), 18);
        Due.due("who had it not, on day 1", x.person(1, 1), 8);
    }

    private static int grown(int care, String formula) {
        GreyHair x = Due.told(Due.cares(care) + "grows " + formula + ";");
        x.day();
        return x.person(0, 1);
    }

    private static void theSumWraps() {
        Due.part("==== 2: the sum wraps, too");
        Due.due("0 and the most", grown(0, MOST_INT), 99);
        Due.due("1 and the most", grown(1, MOST_INT), 0);
        Due.due("99 and the most", grown(99, MOST_INT), 0);
        Due.due("99 and the most less 99", grown(99, MOST_INT + "-99"), 99);
        Due.due("99 and the most less 98", grown(99, MOST_INT + "-98"), 0);
        Due.due("0 and the least", grown(0, LEAST_INT), 0);
        Due.due("99 and the least", grown(99, LEAST_INT), 0);
    }

    private static void inTheEnd() {
        Due.part("==== 2: 0 at least, 99 at most in the end");
        Due.due("98 and 1", grown(98, "1"), 99);
        Due.due("99 and 0", grown(99, "0"), 99);
        Due.due("98 and 2", grown(98, "2"), 99);
        Due.due("99 and 9999", grown(99, "9999"), 99);
        Due.due("0 and 99", grown(0, "99"), 99);
        Due.due("0 and 100", grown(0, "100"), 99);
        Due.due("1 less 1", grown(1, "0-1"), 0);
        Due.due("1 less 2", grown(1, "0-2"), 0);
        Due.due("99 less 99", grown(99, "0-99"), 0);
        Due.due("99 less 100", grown(99, "0-100"), 0);
        Due.due("99 less 98", grown(99, "0-98"), 1);
    }

    private static void theDayGoesUp() {
        Due.part("==== 2: the day goes up by 1; the hair goes");
        GreyHair x = Due.told(Due.cares(3, 4) + "grows 1-has;worry care+day*10;ease 15;");
        Due.due("hair() on day 0", x.hair(), -1);
        Due.due("by cares grown and the day gone up", x.day(), 1);
        Due.due("about(4)", x.about(4), 1);
        Due.due("person(1, 2)", x.person(1, 2), 15);
        x = Due.told(Due.cares(4, 3) + "worry care-has*2;");
        Due.due("has is by where it was", x.day(), 1);
        Due.due("has is by where it was", x.day(), 0);
    }

    private static void dyedItStays() {
        Due.part("==== 2: if it is dyed and on a person it stays; it is dyed no more");
        GreyHair x = Due.told("person a of 0 cares 9;person b of 1 cares 8;grows house*50-9;");
        x.dye();
        Due.due("where nobody else would have it", x.day(), 0);
        Due.due("dyed no more", x.about(3), 0);
        Due.due("his worry is less than ease", x.person(0, 2), 0);
        Due.due("it goes", x.day(), 1);
        x = Due.told(Due.cares(5) + "grows 0-9;");
        x.dye();
        Due.due("it stays", x.day(), 0);
        Due.due("it goes to the brush", x.day(), -1);
    }

    private static int heard(int care, int chance, int amount, int draw) {
        GreyHair x = Due.told("person a of 0 cares " + care + " news " + chance + " of " + amount + ";draw " + draw + ";");
        x.day();
        return x.person(0, 1);
    }

    private static void thenNews() {
        Due.part("==== 2: 0 at least, 99 at most in the end; then news");
        GreyHair x = Due.told("person a of 0 cares 5 news 100 of 7;grows 0-99;");
        x.day();
        Due.due("0 at least ahead of news", x.person(0, 1), 7);
        x = Due.told("person a of 0 cares 90 news 100 of 20;grows 0-care;");
        x.day();
        Due.due("news do not grow", x.person(0, 1), 20);
        x = Due.told("person a of 0 cares 5 news 100 of 9;person b of 0 cares 10;grows 0;");
        Due.due("the hair goes by news", x.day(), 0);
    }

    private static void theSeed() {
        Due.part("==== 2: the seed becomes its 137-fold and 71 more, modulo 1,000");
        int[][] all = {{0, 71}, {1, 208}, {7, 30}, {17, 400}, {998, 797}, {999, 934}};
        for (int[] one : all) {
            GreyHair x = Due.told("person a of 0 cares 5 news 0 of 1;draw " + one[0] + ";");
            x.day();
            Due.due("draw " + one[0], x.about(5), one[1]);
        }
    }

    private static void lessThanTold() {
        Due.part("==== 2: if its rest by 100 is less than told");
        // 17 becomes 400, 44 becomes 99, 0 becomes 71, 9 becomes 304
        Due.due("0 is not less than 0", heard(5, 0, 3, 17), 5);
        Due.due("0 is less than 1", heard(5, 1, 3, 17), 8);
        Due.due("99 is not less than 99", heard(5, 99, 3, 44), 5);
        Due.due("99 is less than 100", heard(5, 100, 3, 44), 8);
        Due.due("71 is not less than 71", heard(5, 71, 3, 0), 5);
        Due.due("71 is less than 72", heard(5, 72, 3, 0), 8);
        Due.due("4 is not less than 4", heard(5, 4, 3, 9), 5);
        Due.due("4 is less than 5", heard(5, 5, 3, 9), 8);
    }

    private static void soMuchMore() {
        Due.part("==== 2: his care is so much more (99 at most)");
        Due.due("0 and 1", heard(0, 100, 1, 0), 1);
        Due.due("0 and 20", heard(0, 100, 20, 0), 20);
        Due.due("79 and 20", heard(79, 100, 20, 0), 99);
        Due.due("80 and 20", heard(80, 100, 20, 0), 99);
        Due.due("98 and 1", heard(98, 100, 1, 0), 99);
        Due.due("99 and 1", heard(99, 100, 1, 0), 99);
    }

    private static void personByPerson() {
        Due.part("==== 2: person by person who has news told");
        // 71 for b, 798 for d; a and c draw nothing
        GreyHair x = Due.told("person a of 0 cares 5;person b of 0 cares 5 news 72 of 1;person c of 0 cares 5;"
                + "person d of 0 cares 5 news 98 of 2;");
        x.day();
        Due.due("a", x.person(0, 1), 5);
        Due.due("b", x.person(1, 1), 6);
        Due.due("c", x.person(2, 1), 5);
        Due.due("d", x.person(3, 1), 5);
        Due.due("two draws", x.about(5), 798);
        x = Due.told("person a of 0 cares 5 news 71 of 1;person b of 0 cares 5 news 99 of 2;");
        x.day();
        Due.due("a", x.person(0, 1), 5);
        Due.due("b", x.person(1, 1), 7);
        x = Due.told(Due.cares(1, 2, 3, 4, 5, 6).replaceAll("cares ([1-4]);", "cares $1 news 100 of $1;"));
        x.day();
        for (int i = 0; i < 6; i++) {
            Due.due("care of " + i, x.person(i, 1), i < 4 ? 2 * i + 2 : i + 1);
        }
        Due.due("four draws", x.about(5), 460);
        x = Due.told(Due.cares(1, 2, 3, 4, 5, 6).replaceAll("cares ([3-6]);", "cares $1 news 100 of $1;"));
        x.day();
        for (int i = 0; i < 6; i++) {
            Due.due("care of " + i, x.person(i, 1), i < 2 ? i + 1 : 2 * i + 2);
        }
        Due.due("four draws", x.about(5), 460);
    }

    private static void anotherPersonOrWhat() {
        Due.part("6: none if there is none such, or for another what");
        GreyHair x = Due.told(Due.cares(5, 6));
        for (int what = 0; what <= 6; what++) {
            for (int person : new int[] {-1, 2, 3, 6, 7, LOW, HIGH}) {
                Due.due("person(" + person + ", " + what + ")", x.person(person, what), -1);
            }
        }
        for (int person = 0; person < 2; person++) {
            for (int what : new int[] {-1, 7, 8, LOW, HIGH}) {
                Due.due("person(" + person + ", " + what + ")", x.person(person, what), -1);
            }
        }
        x = Due.told(Due.cares(1, 2, 3, 4, 5, 6));
        Due.due("the sixth", x.person(5, 1), 6);
        Due.due("the seventh", x.person(6, 1), -1);
        Due.due("of nobody", new GreyHair().person(0, 1), -1);
    }

    private static void asBits() {
        Due.part("6: of whose cares he knows, who knows of his, as bits");
        GreyHair x = Due.told(Due.cares(1, 1, 1, 1, 1, 1) + Due.knows("ab", "ac", "ad", "ae", "af", "fa", "fb"));
        int[] of = {62, 0, 0, 0, 0, 3};
        int[] by = {32, 33, 1, 1, 1, 1};
        for (int i = 0; i < 6; i++) {
            Due.due("person(" + i + ", 3)", x.person(i, 3), of[i]);
            Due.due("person(" + i + ", 4)", x.person(i, 4), by[i]);
        }
        x.tell(1, 5);
        x.forget(0, 1);
        Due.due("as it is now", x.person(1, 3), 32);
        Due.due("as it is now", x.person(0, 3), 60);
        Due.due("as it is now", x.person(5, 4), 3);
        Due.due("as it is now", x.person(1, 4), 32);
    }

    private static void withoutNews() {
        Due.part("6: news in 100, of how much (both 0 without)");
        GreyHair x = Due.told("person a of 0 cares 5 news 0 of 1;person b of 0 cares 5;"
                + "person c of 0 cares 5 news 100 of 20;");
        int[][] wanted = {{0, 1}, {0, 0}, {100, 20}};
        for (int i = 0; i < 3; i++) {
            Due.due("person(" + i + ", 5)", x.person(i, 5), wanted[i][0]);
            Due.due("person(" + i + ", 6)", x.person(i, 6), wanted[i][1]);
        }
    }

    private static void brushOrPerson() {
        Due.part("7, 8: whom the hair is on; -1 on the brush");
        GreyHair x = new GreyHair();
        Due.due("hair() of nobody", x.hair(), -1);
        Due.due("day() of nobody", x.day(), -1);
        Due.due("about(4)", x.about(4), 1);
        x = Due.told(Due.cares(1, 1, 1, 1, 1, 2));
        Due.due("hair()", x.hair(), 5);
        Due.due("day()", x.day(), 5);
        x = Due.told(Due.cares(2) + "grows 0-1;");
        Due.due("hair()", x.hair(), 0);
        Due.due("day()", x.day(), 0);
        Due.due("day()", x.day(), -1);
        Due.due("hair()", x.hair(), -1);
    }

    /** More calls than the document lets an object be used for: no fewer bring a day 999. */
    private static void behind999() {
        Due.part("8: -2, doing nothing, behind 999 of them");
        GreyHair x = Due.told(Due.cares(5, 4) + "worry care*10-day%2*12*has;");
        for (int i = 1; i <= 999; i++) {
            int hair = x.day();
            if (i > 990) {
                Due.due("day() " + i, hair, i % 2 == 0 ? 0 : 1);
            }
        }
        Due.due("about(4)", x.about(4), 999);
        x.undo();
        Due.due("behind 998 of them", x.day(), 1);
        String before = Due.look(x);
        Due.refused(x, "day()", before, x.day(), -2);
        Due.refused(x, "day()", before, x.day(), -2);
        Due.due("other acts go on", x.take(0, 1), 6);
        Due.due("day()", x.day(), -2);
        x.image(0);
        x.undo();
        x.undo();
        Due.due("day() again", x.day(), 1);
        Due.due("back(0)", x.back(0), 999);
        Due.due("day()", x.day(), -2);
    }

    private static void aDayIsAnAct() {
        Due.part("8 to 14: an act");
        GreyHair x = Due.told(Due.cares(5, 4));
        x.day();
        Due.due("day", x.about(6), 1);
        x.ease(0, 1);
        Due.due("ease", x.about(6), 2);
        x.take(1, 1);
        Due.due("take", x.about(6), 3);
        x.tell(0, 1);
        Due.due("tell", x.about(6), 4);
        x.forget(0, 1);
        Due.due("forget", x.about(6), 5);
        x.dye();
        Due.due("dye", x.about(6), 6);
        x.pluck();
        Due.due("pluck", x.about(6), 7);
        x.hair();
        x.next();
        x.will(60);
        x.spare(0, 20, 0);
        x.duel(0, 1);
        x.wed();
        x.seen(0, 0, true);
        x.untell(0);
        x.later(5);
        x.image(0);
        x.feed(0, 0, 0, 0, 0);
        x.end(0);
        Due.due("nothing else is", x.about(6), 7);
    }

    private static void easedOfSome() {
        Due.part("9: eased of some care (1 .. 9): his care then");
        GreyHair x = Due.told(Due.cares(50, 60, 1, 1, 1, 99));
        Due.due("ease(0, 1)", x.ease(0, 1), 49);
        Due.due("ease(1, 9)", x.ease(1, 9), 51);
        Due.due("ease(5, 5)", x.ease(5, 5), 94);
        Due.due("person(0, 1)", x.person(0, 1), 49);
        Due.due("person(1, 1)", x.person(1, 1), 51);
        Due.due("person(5, 1)", x.person(5, 1), 94);
    }

    private static void easedZeroAtLeast() {
        Due.part("==== 2, 9: 0 at least");
        for (int care = 0; care <= 10; care++) {
            for (int less = 1; less <= 9; less++) {
                GreyHair x = Due.told(Due.cares(care));
                Due.due("ease of " + less + " of " + care, x.ease(0, less), Math.max(0, care - less));
                Due.due("person(0, 1)", x.person(0, 1), Math.max(0, care - less));
                Due.due("an act, if nothing changes, too", x.about(6), 1);
            }
        }
    }

    private static void easeRefused() {
        Due.part("9: none, doing nothing, if one can't be");
        GreyHair x = Due.told(Due.cares(50, 60));
        String before = Due.look(x);
        int[][] wrong = {{0, 0}, {0, 10}, {0, -1}, {0, LOW}, {0, HIGH}, {-1, 1}, {2, 1}, {6, 1}, {LOW, 9}, {HIGH, 9}};
        for (int[] w : wrong) {
            Due.refused(x, "ease(" + w[0] + ", " + w[1] + ")", before, x.ease(w[0], w[1]), -1);
        }
        Due.due("nobody", new GreyHair().ease(0, 1), -1);
    }

    private static void takesOnSome() {
        Due.part("10: he takes on some care (1 .. 9): his care then");
        GreyHair x = Due.told(Due.cares(50, 60, 1, 1, 1, 0));
        Due.due("take(0, 1)", x.take(0, 1), 51);
        Due.due("take(1, 9)", x.take(1, 9), 69);
        Due.due("take(5, 5)", x.take(5, 5), 5);
        Due.due("person(0, 1)", x.person(0, 1), 51);
        Due.due("person(1, 1)", x.person(1, 1), 69);
        Due.due("person(5, 1)", x.person(5, 1), 5);
    }

    private static void takes99AtMost() {
        Due.part("==== 2, 10: 99 at most");
        for (int care = 89; care <= 99; care++) {
            for (int more = 1; more <= 9; more++) {
                GreyHair x = Due.told(Due.cares(care));
                Due.due("take of " + more + " on " + care, x.take(0, more), Math.min(99, care + more));
                Due.due("person(0, 1)", x.person(0, 1), Math.min(99, care + more));
                Due.due("an act, if nothing changes, too", x.about(6), 1);
            }
        }
    }

    private static void takeRefused() {
        Due.part("10: none, doing nothing, if one can't be");
        GreyHair x = Due.told(Due.cares(50, 60));
        String before = Due.look(x);
        int[][] wrong = {{0, 0}, {0, 10}, {0, -1}, {0, LOW}, {0, HIGH}, {-1, 1}, {2, 1}, {6, 1}, {LOW, 9}, {HIGH, 9}};
        for (int[] w : wrong) {
            Due.refused(x, "take(" + w[0] + ", " + w[1] + ")", before, x.take(w[0], w[1]), -1);
        }
        Due.due("nobody", new GreyHair().take(0, 1), -1);
    }

    private static void theHairStays() {
        Due.part("==== 2: the hair stays where it is");
        GreyHair x = Due.told(Due.cares(5, 4));
        x.ease(0, 9);
        Due.due("eased", x.hair(), 0);
        x.take(1, 9);
        Due.due("taken on", x.hair(), 0);
        x.tell(1, 0);
        Due.due("told", x.hair(), 0);
        x.forget(1, 0);
        Due.due("forgotten", x.hair(), 0);
        x.dye();
        Due.due("dyed", x.hair(), 0);
        x = Due.told(Due.cares(5, 4) + "ease 6;");
        x.take(0, 9);
        Due.due("on the brush, too", x.hair(), -1);
    }

    private static void hisWorryThen() {
        Due.part("11, 12: his worry then");
        GreyHair x = Due.told(Due.cares(5, 9, 0));
        Due.due("tell(0, 1)", x.tell(0, 1), 9);
        Due.due("tell(2, 1)", x.tell(2, 1), 4);
        Due.due("tell(2, 0)", x.tell(2, 0), 7);
        Due.due("forget(2, 1)", x.forget(2, 1), 2);
        Due.due("forget(0, 1)", x.forget(0, 1), 5);
        x = Due.told(Due.cares(5, 99) + "worry known*99;");
        Due.due("999 at most", x.tell(0, 1), 999);
        Due.due("0 at least", x.forget(0, 1), 0);
    }

    private static void ifHeKnows() {
        Due.part("11: none, doing nothing, if he knows");
        GreyHair x = Due.told(Due.cares(5, 4, 3) + Due.knows("ab"));
        String before = Due.look(x);
        Due.refused(x, "tell(0, 1)", before, x.tell(0, 1), -1);
        Due.due("the other way", x.tell(1, 0), 6);
        Due.due("and no more", x.tell(1, 0), -1);
    }

    private static void ifBothAreOne() {
        Due.part("11: none, doing nothing, if both are one");
        GreyHair x = Due.told(Due.cares(5, 4, 3));
        String before = Due.look(x);
        for (int i = 0; i < 3; i++) {
            Due.refused(x, "tell(" + i + ", " + i + ")", before, x.tell(i, i), -1);
        }
    }

    private static GreyHair elevenKnow() {
        return Due.told(Due.cares(1, 1, 1, 1, 1, 1)
                + Due.knows("ab", "ac", "ad", "ae", "af", "ba", "bc", "bd", "be", "bf", "ca"));
    }

    private static void ifThereAreTwelve() {
        Due.part("11: none, doing nothing, if there are 12 knows");
        GreyHair x = elevenKnow();
        Due.due("about(1)", x.about(1), 11);
        Due.due("the twelfth", x.tell(5, 4), 1);
        Due.due("about(1)", x.about(1), 12);
        String before = Due.look(x);
        Due.refused(x, "the thirteenth", before, x.tell(5, 3), -1);
        Due.refused(x, "the thirteenth", before, x.tell(2, 1), -1);
        x.forget(0, 1);
        Due.due("the twelfth again", x.tell(5, 3), 2);
        Due.due("the thirteenth", x.tell(0, 1), -1);
        x.undo();
        x.undo();
        Due.due("twelve by undo", x.about(1), 12);
        Due.due("the thirteenth", x.tell(5, 3), -1);
    }

    private static void tellOneThatCannotBe() {
        Due.part("11: none, doing nothing, if one can't be");
        GreyHair x = Due.told(Due.cares(5, 4));
        String before = Due.look(x);
        int[][] wrong = {{-1, 0}, {0, -1}, {2, 0}, {0, 2}, {LOW, 0}, {0, LOW}, {HIGH, 0}, {0, HIGH}, {-1, -1}, {2, 2},
            {0, 32}, {0, 33}, {32, 1}};
        for (int[] w : wrong) {
            Due.refused(x, "tell(" + w[0] + ", " + w[1] + ")", before, x.tell(w[0], w[1]), -1);
        }
        Due.due("nobody", new GreyHair().tell(0, 1), -1);
    }

    private static void ifHeDoesNotKnow() {
        Due.part("12: none, doing nothing, if he does not know");
        GreyHair x = Due.told(Due.cares(5, 4, 3) + Due.knows("ab"));
        String before = Due.look(x);
        int[][] wrong = {{1, 0}, {0, 2}, {2, 0}, {0, 0}, {1, 1}};
        for (int[] w : wrong) {
            Due.refused(x, "forget(" + w[0] + ", " + w[1] + ")", before, x.forget(w[0], w[1]), -1);
        }
        Due.due("he knows", x.forget(0, 1), 5);
        Due.due("and no more", x.forget(0, 1), -1);
    }

    private static void forgetOneThatCannotBe() {
        Due.part("12: none, doing nothing, if one can't be");
        GreyHair x = Due.told(Due.cares(5, 4) + Due.knows("ab", "ba"));
        String before = Due.look(x);
        int[][] wrong = {{-1, 0}, {0, -1}, {2, 0}, {0, 2}, {LOW, 0}, {0, LOW}, {HIGH, 0}, {0, HIGH}, {0, 33}, {1, 32},
            {32, 1}};
        for (int[] w : wrong) {
            Due.refused(x, "forget(" + w[0] + ", " + w[1] + ")", before, x.forget(w[0], w[1]), -1);
        }
        Due.due("nobody", new GreyHair().forget(0, 1), -1);
    }

    private static void notToHimWhoHasIt() {
        Due.part("==== 2, 13: it goes at once, but not to him who has it");
        GreyHair x = Due.told(Due.cares(9, 5, 5, 4));
        Due.due("the first of like ones", x.pluck(), 1);
        Due.due("no day is gone", x.about(4), 0);
        Due.due("and back", x.pluck(), 0);
        Due.due("one alone", Due.told(Due.cares(9)).pluck(), -1);
        x = Due.told(Due.cares(0, 0) + "ease 0;");
        Due.due("ease 0", x.pluck(), 1);
        Due.due("ease 0", x.pluck(), 0);
        Due.due("ease 0, alone", Due.told(Due.cares(0) + "ease 0;").pluck(), -1);
        x = Due.told(Due.cares(9, 5) + "ease 5;");
        Due.due("as much as ease", x.pluck(), 1);
        x = Due.told(Due.cares(9, 5) + "ease 6;");
        Due.due("less than ease", x.pluck(), -1);
    }

    private static void ofTheOthersAlone() {
        Due.part("==== 2: of the others alone; what they know of him counts on");
        GreyHair x = Due.told(Due.cares(30, 9, 1) + Due.knows("ca"));
        Due.due("c by a's cares", x.pluck(), 2);
        x = Due.told(Due.cares(30, 9, 1) + Due.knows("ca") + "ease 16;");
        Due.due("as much as ease by a's cares", x.pluck(), 2);
    }

    private static void plucksOnTheBrush() {
        Due.part("13: -2, doing nothing, if it is on the brush");
        GreyHair x = Due.told(Due.cares(9, 5) + "ease 10;");
        String before = Due.look(x);
        Due.refused(x, "pluck()", before, x.pluck(), -2);
        x.take(0, 9);
        Due.due("he has more now, but it lies there yet", x.pluck(), -2);
        Due.due("nobody", new GreyHair().pluck(), -2);
    }

    private static void dyedNoMore() {
        Due.part("==== 2, 13: plucked, dyed no more");
        GreyHair x = Due.told(Due.cares(9, 5));
        x.dye();
        x.pluck();
        Due.due("about(3)", x.about(3), 0);
        Due.due("it goes the next day", x.day(), 0);
        x = Due.told(Due.cares(9));
        x.dye();
        Due.due("to the brush", x.pluck(), -1);
        Due.due("about(3)", x.about(3), 0);
    }

    private static void dyesIfDyed() {
        Due.part("14: none, doing nothing, if it is dyed");
        GreyHair x = Due.told(Due.cares(1, 1, 1, 1, 1, 9));
        Due.due("whom it is on", x.dye(), 5);
        String before = Due.look(x);
        Due.refused(x, "dye()", before, x.dye(), -1);
        x.undo();
        Due.due("no more by undo", x.dye(), 5);
        x.day();
        Due.due("no more by a day", x.dye(), 5);
        x.pluck();
        Due.due("no more by a pluck", x.dye(), 0);
    }

    private static void dyesOnTheBrush() {
        Due.part("14: none, doing nothing, if it is on the brush");
        GreyHair x = Due.told(Due.cares(9, 5) + "ease 10;");
        String before = Due.look(x);
        Due.refused(x, "dye()", before, x.dye(), -1);
        Due.due("nobody", new GreyHair().dye(), -1);
    }

    private static void undoneOneByOne() {
        Due.part("15, 16: undo takes back the latest act that was not, redo does that again which was taken back last");
        GreyHair x = Due.told("person a of 0 cares 9 news 50 of 3;person b of 1 cares 5;grows 2;draw 7;");
        String[] looks = new String[8];
        looks[0] = known(x);
        x.day();
        looks[1] = known(x);
        x.ease(0, 9);
        looks[2] = known(x);
        x.take(1, 9);
        looks[3] = known(x);
        x.tell(0, 1);
        looks[4] = known(x);
        x.forget(0, 1);
        looks[5] = known(x);
        x.dye();
        looks[6] = known(x);
        x.pluck();
        looks[7] = known(x);
        for (int i = 6; i >= 0; i--) {
            Due.due("undo()", x.undo(), true);
            Due.same("undone to " + i, known(x), looks[i]);
            Due.due("about(6)", x.about(6), i);
            Due.due("about(7)", x.about(7), 7 - i);
        }
        for (int i = 1; i <= 7; i++) {
            Due.due("redo()", x.redo(), true);
            Due.same("redone to " + i, known(x), looks[i]);
            Due.due("about(6)", x.about(6), i);
            Due.due("about(7)", x.about(7), 7 - i);
        }
    }

    /** What acts change, without how many of them there are. */
    private static String known(GreyHair x) {
        StringBuilder all = new StringBuilder().append(x.hair());
        for (int what = 3; what <= 5; what++) {
            all.append(' ').append(x.about(what));
        }
        for (int person = 0; person < x.about(0); person++) {
            all.append(" | ").append(x.person(person, 1)).append(' ').append(x.person(person, 3));
        }
        return all.toString();
    }

    private static void noneToUndo() {
        Due.part("15: false if there is none");
        GreyHair x = new GreyHair();
        Due.due("undo() of a new one", x.undo(), false);
        x = Due.told(Due.cares(9, 5));
        String before = Due.look(x);
        Due.refused(x, "undo()", before, x.undo() ? 1 : 0, 0);
        x.day();
        Due.due("undo()", x.undo(), true);
        before = Due.look(x);
        Due.refused(x, "undo()", before, x.undo() ? 1 : 0, 0);
        Due.due("redo() is there yet", x.redo(), true);
    }

    private static void noneToRedo() {
        Due.part("16: false if there is none");
        GreyHair x = new GreyHair();
        Due.due("redo() of a new one", x.redo(), false);
        x = Due.told(Due.cares(9, 5));
        x.day();
        String before = Due.look(x);
        Due.refused(x, "redo()", before, x.redo() ? 1 : 0, 0);
        x.undo();
        x.redo();
        before = Due.look(x);
        Due.refused(x, "redo()", before, x.redo() ? 1 : 0, 0);
        Due.due("undo() is there yet", x.undo(), true);
    }

    private static void tillAnotherAct() {
        Due.part("==== 2: redo (till another act)");
        for (int act = 0; act < 7; act++) {
            GreyHair x = Due.told(Due.cares(9, 5, 3) + Due.knows("ab"));
            x.take(2, 1);
            x.take(2, 1);
            x.undo();
            x.undo();
            Due.due("about(7)", x.about(7), 2);
            act(x, act);
            Due.due("about(7) behind act " + act, x.about(7), 0);
            Due.due("redo() behind act " + act, x.redo(), false);
            Due.due("about(6) behind act " + act, x.about(6), 1);
            Due.due("undo() behind act " + act, x.undo(), true);
            Due.due("about(6) behind act " + act, x.about(6), 0);
        }
    }

    private static void act(GreyHair x, int which) {
        switch (which) {
            case 0 -> x.day();
            case 1 -> x.ease(0, 1);
            case 2 -> x.take(0, 1);
            case 3 -> x.tell(1, 0);
            case 4 -> x.forget(0, 1);
            case 5 -> x.pluck();
            default -> x.dye();
        }
    }

    private static void refusedIsNoAct() {
        Due.part("8 to 14: doing nothing, redo is there yet");
        GreyHair x = Due.told(Due.cares(9, 5) + Due.knows("ab") + "ease 12;");
        x.take(0, 1);
        x.undo();
        String before = Due.look(x);
        Due.refused(x, "ease", before, x.ease(0, 0), -1);
        Due.refused(x, "take", before, x.take(0, 10), -1);
        Due.refused(x, "tell", before, x.tell(0, 1), -1);
        Due.refused(x, "forget", before, x.forget(1, 0), -1);
        Due.refused(x, "pluck", before, x.pluck(), -2);
        Due.refused(x, "dye", before, x.dye(), -1);
        Due.due("redo()", x.redo(), true);
        Due.due("person(0, 1)", x.person(0, 1), 10);
    }

    private static void fortyAreKept() {
        Due.part("==== 2: 40 at most are kept");
        GreyHair x = Due.told(Due.cares(0) + "grows 1;");
        for (int i = 1; i <= 40; i++) {
            x.day();
            Due.due("about(6)", x.about(6), i);
        }
        for (int i = 39; i >= 0; i--) {
            Due.due("undo()", x.undo(), true);
            Due.due("about(4)", x.about(4), i);
        }
        Due.due("undo()", x.undo(), false);
        Due.due("all of them are taken back", x.person(0, 1), 0);
    }

    private static void fortyOneAreNot() {
        Due.part("==== 2: the oldest go");
        for (int more = 1; more <= 43; more += 6) {
            GreyHair x = Due.told(Due.cares(0) + "grows 1;");
            for (int i = 0; i < 40 + more; i++) {
                x.day();
            }
            Due.due("about(6)", x.about(6), 40);
            for (int i = 0; i < 40; i++) {
                Due.due("undo()", x.undo(), true);
            }
            Due.due("undo()", x.undo(), false);
            Due.due("about(4)", x.about(4), more);
            Due.due("person(0, 1)", x.person(0, 1), more);
        }
    }

    private static void actsBehindUndo() {
        Due.part("==== 2: 40 are kept, some of them undone, and another act");
        GreyHair x = Due.told(Due.cares(0) + "grows 1;");
        for (int i = 0; i < 45; i++) {
            x.day();
        }
        for (int i = 0; i < 5; i++) {
            x.undo();
        }
        x.take(0, 9);
        Due.due("about(6)", x.about(6), 36);
        Due.due("about(7)", x.about(7), 0);
        Due.due("person(0, 1)", x.person(0, 1), 49);
        for (int i = 40; i >= 5; i--) {
            Due.due("undo()", x.undo(), true);
            Due.due("person(0, 1)", x.person(0, 1), i);
        }
        Due.due("undo()", x.undo(), false);
        Due.due("about(7)", x.about(7), 36);
    }

    private static void redoOfForty() {
        Due.part("==== 2: redo of as many as are kept");
        GreyHair x = Due.told(Due.cares(0) + "grows 1;");
        for (int i = 0; i < 41; i++) {
            x.day();
        }
        for (int i = 0; i < 40; i++) {
            x.undo();
        }
        Due.due("about(7)", x.about(7), 40);
        for (int i = 2; i <= 41; i++) {
            Due.due("redo()", x.redo(), true);
            Due.due("person(0, 1)", x.person(0, 1), i);
        }
        Due.due("redo()", x.redo(), false);
        x.day();
        Due.due("about(6)", x.about(6), 40);
        for (int i = 41; i >= 2; i--) {
            Due.due("undo()", x.undo(), true);
            Due.due("person(0, 1)", x.person(0, 1), i);
        }
        Due.due("undo()", x.undo(), false);
    }

    private static void keptInABox() {
        Due.part("46: kept in a box 0 .. 2: the day");
        GreyHair x = Due.told(Due.cares(0) + "grows 1;");
        for (int box = 0; box < 3; box++) {
            Due.due("image(" + box + ")", x.image(box), box);
            x.day();
        }
        for (int box = 2; box >= 0; box--) {
            Due.due("back(" + box + ")", x.back(box), box);
            Due.due("person(0, 1)", x.person(0, 1), box);
        }
    }

    private static void imageRefused() {
        Due.part("46: none if there is none such");
        GreyHair x = Due.told(Due.cares(0) + "grows 1;");
        x.day();
        String before = Due.look(x);
        for (int box : new int[] {-1, 3, 4, LOW, HIGH}) {
            Due.refused(x, "image(" + box + ")", before, x.image(box), -1);
        }
        for (int box = 0; box < 3; box++) {
            Due.due("back(" + box + ")", x.back(box), -1);
        }
        Due.refused(x, "image(0) changes nothing", before, x.image(0), 1);
    }

    private static void allIsAsKept() {
        Due.part("46, 47: cares, who knows, the hair, if it is dyed, the day, the seed");
        GreyHair x = Due.told("person a of 0 cares 30 news 50 of 3;person b of 1 cares 20;grows 2;draw 7;");
        x.image(0);
        String first = known(x);
        x.day();
        x.tell(0, 1);
        x.pluck();
        x.dye();
        x.take(0, 9);
        x.image(2);
        String second = known(x);
        x.day();
        x.forget(0, 1);
        x.tell(1, 0);
        x.pluck();
        Due.due("back(0)", x.back(0), 0);
        Due.same("as it was", known(x), first);
        Due.due("back(2)", x.back(2), 1);
        Due.same("as it was", known(x), second);
        Due.due("dyed", x.about(3), 1);
        Due.due("seed", x.about(5), 30);
        Due.due("it stays", x.next(), 1);
    }

    private static void notKept() {
        Due.part("46, 47: what is seen, the time, what lies there, the tape stay");
        GreyHair x = Due.told(Due.cares(30, 20));
        x.image(1);
        x.later(9);
        x.seen(0, 0, true);
        x.untell(0);
        x.seen(0, 1, true);
        x.path(3);
        x.feed(0, 0, 0, 0, 0);
        x.end(13);
        int fits = x.fits(9);
        Due.due("back(1)", x.back(1), 0);
        Due.due("about(8)", x.about(8), 2);
        Due.due("about(9)", x.about(9), 9);
        Due.due("about(10)", x.about(10), 13);
        Due.lie(x, 0, 0, 0);
        Due.due("fits(9)", x.fits(9), fits);
        Due.due("untell(0)", x.untell(0), false);
    }

    private static void noActsBehindBack() {
        Due.part("47: no acts are kept then");
        GreyHair x = Due.told(Due.cares(30, 20));
        x.image(0);
        x.day();
        x.day();
        x.undo();
        Due.due("about(6)", x.about(6), 1);
        Due.due("about(7)", x.about(7), 1);
        Due.due("back(0)", x.back(0), 0);
        Due.due("about(6)", x.about(6), 0);
        Due.due("about(7)", x.about(7), 0);
        Due.due("undo()", x.undo(), false);
        Due.due("redo()", x.redo(), false);
        x.day();
        Due.due("gone on from it", x.undo(), true);
        Due.due("about(4)", x.about(4), 0);
    }

    private static void backRefused() {
        Due.part("47: none, doing nothing, if nothing was");
        GreyHair x = Due.told(Due.cares(30, 20));
        x.day();
        x.take(0, 1);
        x.undo();
        x.image(1);
        x.day();
        x.undo();
        String before = Due.look(x);
        for (int box : new int[] {0, 2, -1, 3, LOW, HIGH}) {
            Due.refused(x, "back(" + box + ")", before, x.back(box), -1);
        }
        Due.due("back(0) of a new one", new GreyHair().back(0), -1);
    }

    private static void keptAnewAndOn() {
        Due.part("46, 47: kept anew, and kept on");
        GreyHair x = Due.told(Due.cares(0) + "grows 1;");
        x.image(0);
        x.day();
        x.image(0);
        x.day();
        Due.due("the latter", x.back(0), 1);
        x.day();
        x.day();
        Due.due("kept on", x.back(0), 1);
        Due.due("person(0, 1)", x.person(0, 1), 1);
        x = new GreyHair();
        Due.due("of an empty family, too", x.image(2), 0);
        x.day();
        Due.due("of an empty family, too", x.back(2), 0);
    }

    private static void aboutAtFirst() {
        Due.part("48: what 0 .. 12 at the least");
        GreyHair x = new GreyHair();
        for (int what = 0; what <= 12; what++) {
            Due.due("about(" + what + ")", x.about(what), what == 2 ? 1 : 0);
        }
    }

    private static void aboutAtMost() {
        Due.part("48: what 0 .. 12 at the most");
        GreyHair x = Due.told(Due.cares(1, 1, 1, 1, 1, 1)
                + Due.knows("ab", "ac", "ad", "ae", "af", "ba", "bc", "bd", "be", "bf", "ca", "cb")
                + "worry 1" + "+1".repeat(29) + ";grows 1" + "-1".repeat(29) + ";ease 999;draw 999;");
        for (int i = 0; i < 41; i++) {
            x.day();
        }
        for (int i = 0; i < 30; i++) {
            x.seen(0, 0, false);
        }
        for (int i = 0; i < 100; i++) {
            x.later(1000);
        }
        for (int i = 0; i < 80; i++) {
            x.feed(0, 0, 0, 0, 0);
        }
        x.path(6);
        int[] wanted = {6, 12, 999, 0, 41, 999, 40, 0, 30, 100000, 1600, 60, 6};
        for (int what = 0; what <= 12; what++) {
            Due.due("about(" + what + ")", x.about(what), wanted[what]);
        }
        for (int i = 0; i < 40; i++) {
            x.undo();
        }
        Due.due("about(6)", x.about(6), 0);
        Due.due("about(7)", x.about(7), 40);
    }

    private static void calls512() {
        Due.part("An object is used for at most 512 calls");
        GreyHair x = new GreyHair();
        x.feed(0x70657273, 0x6F6E2061, 0x206F6620, 0x30206361, 0x72657320);
        x.feed(0x353B6772, 0x6F777320, 0x31206F72, 0x20686173, 0x3B202020);
        Due.due("call 3", x.family(), 1);
        for (int call = 4; call <= 507; call++) {
            Due.due("call " + call, x.day(), 0);
        }
        Due.due("call 508", x.about(4), 504);
        Due.due("call 509", x.about(6), 40);
        Due.due("call 510", x.person(0, 1), 99);
        Due.due("call 511", x.undo(), true);
        Due.due("call 512", x.about(4), 503);
    }

    private static void aboutAnotherWhat() {
        Due.part("48: none for another what");
        GreyHair x = Due.told(Due.cares(1, 2));
        for (int what : new int[] {-1, 13, 14, LOW, HIGH}) {
            Due.due("about(" + what + ")", x.about(what), -1);
        }
    }
}
