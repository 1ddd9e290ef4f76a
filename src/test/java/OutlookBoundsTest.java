/**
 * Boundary cases of what would be, sentence by sentence: "==== 3", promises 17 to 39.
 * Each method has one sentence of the document, which stands in its part.
 */
public final class OutlookBoundsTest {
    private static final int LOW = Integer.MIN_VALUE;
    private static final int HIGH = Integer.MAX_VALUE;
    private static final String NEWS = "person a of 0 cares 20;person b of 1 cares 10 news 100 of 20;";
    private static final String SIX = Due.cares(1, 1, 1, 1, 1, 1);
    private static final String TWELVE_KNOW = Due.knows("ab", "ac", "bc", "bd", "cd", "ce", "de", "df", "ef", "ea", "fa",
            "fb");

    public static void main(String[] args) {
        general();
        ahead();
        spare();
        easing();
        hush();
        knows();
        wed();
        nightsAndReturns();
        rankAndWords();
        peaceAndBurden();
        calmAndLaw();
        odds();
        duel();
        path();
        silence();
        aloneAndHeaviest();
        lies();
        Due.finish();
    }

    private static void general() {
        nothingIsDone();
        noNews();
        noNewsOfTheFirst();
        beyondDay999();
        ofNobody();
        dyedStays();
    }

    private static void ahead() {
        willForDays();
        willAsTheSeedTells();
        willRefused();
        caresForDays();
        caresRefused();
        nextOnTheBrush();
    }

    private static void spare() {
        leastCareOfAnother();
        behindNoneOfTheNext();
        theFirstWhoDoes();
        spareOfNothing();
        nobodyCan();
        heIsAlone();
        spareRefused();
    }

    private static void easing() {
        leastEasing();
        easingOfNothing();
        allHisCareIsNotEnough();
        easingRefused();
    }

    private static void hush() {
        fewestToBeForgotten();
        hushBehindTheNextDay();
        leastSetOfKnows();
        hushOfNothing();
        hushOfAllTwelve();
        allKnowsAreNotEnough();
        hushAnotherWhat();
    }

    private static void knows() {
        inTheirOrder();
        knowsRefused();
    }

    private static void wed() {
        asManyAsCanBe();
        theMostIsLeast();
        theFirstOfLikeWeddings();
        noTwoCanBe();
    }

    private static void nightsAndReturns() {
        nightsForDays();
        nightsRefused();
        returnsFirst();
        returnsNever();
        returnsRefused();
    }

    private static void rankAndWords() {
        rankInOrder();
        rankOfSome();
        wordsThatBringIt();
        wordsThatDoNot();
        howeverManyKnow();
    }

    private static void peaceAndBurden() {
        peaceFirst();
        peaceNever();
        burdenForDays();
        burdenRefused();
    }

    private static void calmAndLaw() {
        leastEase();
        noEase();
        lawOfSome();
        lawRefused();
    }

    private static void odds() {
        inLowestTerms();
        zeroOfOne();
        byItself();
        oddsRefused();
    }

    private static void duel() {
        zeroToNine();
        lessIsBetter();
        duel99AtMost();
        noRests();
        theFirstOfRests();
        duelRefused();
    }

    private static void path() {
        pathForDays();
        pathRefused();
    }

    private static void silence() {
        fewestOthers();
        leastSetOfOthers();
        allOthersAreNotEnough();
        silenceRefused();
    }

    private static void aloneAndHeaviest() {
        aloneAsBits();
        heaviestFirst();
    }

    private static void lies() {
        theNumbersThatLie();
        liesBehindARefusedCall();
        liesOn();
    }

    private static void nothingIsDone() {
        Due.part("==== 3: nothing is done");
        GreyHair x = Due.told("person a of 0 cares 20 news 50 of 9;person b of 1 cares 19;person c of 0 cares 5;"
                + Due.knows("ab", "ca") + "grows 1-has*3;ease 7;draw 3;");
        x.day();
        x.day();
        x.undo();
        String before = withoutLies(Due.look(x));
        for (int which = 0; which < 20; which++) {
            ask(x, which);
            Due.same("all behind question " + which, withoutLies(Due.look(x)), before);
        }
        x.dye();
        before = withoutLies(Due.look(x));
        for (int which = 0; which < 20; which++) {
            ask(x, which);
            Due.same("all of the dyed one behind question " + which, withoutLies(Due.look(x)), before);
        }
    }

    private static String withoutLies(String look) {
        return look.replaceFirst(" -?\\d+ \\|", " |").replaceFirst("\\|[^|]*\\|[^|]*$", "");
    }

    private static void ask(GreyHair x, int which) {
        switch (which) {
            case 0 -> x.will(60);
            case 1 -> x.cares(0, 60);
            case 2 -> x.next();
            case 3 -> x.spare(0, 20, 0);
            case 4 -> x.easing(0);
            case 5 -> x.hush(1);
            case 6 -> x.knows(1, 0);
            case 7 -> x.wed();
            case 8 -> x.nights(0, 60);
            case 9 -> x.returns(2);
            case 10 -> x.rank();
            case 11 -> x.words();
            case 12 -> x.peace();
            case 13 -> x.burden(60);
            case 14 -> x.calm();
            case 15 -> x.law(9);
            case 16 -> x.odds(0, 0);
            case 17 -> x.duel(0, 1);
            case 18 -> x.path(6);
            default -> x.silence(2, 0);
        }
    }

    private static void noNews() {
        Due.part("==== 3: no news, if not told otherwise");
        GreyHair x = Due.told(NEWS);
        Due.due("will(1) has them", x.will(1), 1);
        Due.due("odds(1, 0) has them", x.odds(1, 0), 1);
        Due.due("next()", x.next(), 0);
        Due.due("cares(1, 1)", x.cares(1, 1), 10);
        Due.due("cares(1, 60)", x.cares(1, 60), 10);
        Due.due("spare(1, 20, 0)", x.spare(1, 20, 0), 0);
        Due.due("spare(0, 20, 0)", x.spare(0, 20, 0), 11);
        Due.due("easing(1)", x.easing(1), 0);
        Due.due("nights(0, 60)", x.nights(0, 60), 60);
        Due.due("returns(1)", x.returns(1), -1);
        Due.due("burden(60)", x.burden(60), 30);
        Due.due("calm()", x.calm(), 21);
        Due.due("silence(1, 0)", x.silence(1, 0), 0);
        Due.due("path(6)", x.path(6), 0);
        Due.lie(x, 0, 0, 0, 0, 0, 0);
        x = Due.told("person a of 0 cares 20;person b of 1 cares 15 news 100 of 20;ease 21;");
        Due.due("peace()", x.peace(), 0);
        Due.due("hush(0)", x.hush(0), 0);
        // b by a's 20 has 25; a by b's 15 has 27
        Due.due("words()", x.words(), 2);
        // a needs 1 and b 6 (b with news none at all)
        Due.due("duel(1, 0)", x.duel(1, 0), 0);
    }

    private static void noNewsOfTheFirst() {
        Due.part("==== 3: no news, of the first one neither");
        GreyHair x = Due.told("person a of 0 cares 12 news 100 of 20;person b of 1 cares 20;person c of 0 cares 0;");
        Due.due("will(1) has them", x.will(1), 0);
        Due.due("odds(0, 0) has them", x.odds(0, 0), 1);
        Due.due("next()", x.next(), 1);
        Due.due("cares(0, 60)", x.cares(0, 60), 12);
        Due.due("spare(0, 20, 0)", x.spare(0, 20, 0), 0);
        Due.due("spare(1, 20, 0)", x.spare(1, 20, 0), 8);
        Due.due("easing(0)", x.easing(0), 0);
        Due.due("easing(1)", x.easing(1), 8);
        Due.due("nights(1, 60)", x.nights(1, 60), 60);
        Due.due("returns(0)", x.returns(0), -1);
        Due.due("burden(60)", x.burden(60), 32);
        Due.due("calm()", x.calm(), 21);
        Due.due("silence(0, 0)", x.silence(0, 0), 0);
        // a by b's 20 alone
        Due.due("words()", x.words(), 1);
        Due.due("duel(0, 1)", x.duel(0, 1), 0);
        Due.due("path(6)", x.path(6), 0);
        Due.lie(x, 1, 1, 1, 1, 1, 1);
    }

    private static void beyondDay999() {
        Due.part("==== 3: what lies ahead goes on beyond day 999, too");
        GreyHair x = Due.told("person a of 0 cares 5;person b of 1 cares 4;worry care*10-day%2*12*has;"
                + "grows (day=1000)*7*(1-house);");
        for (int i = 0; i < 999; i++) {
            x.day();
        }
        Due.due("about(4)", x.about(4), 999);
        Due.due("hair()", x.hair(), 1);
        Due.due("next()", x.next(), 0);
        Due.due("will(1)", x.will(1), 0);
        // on day 1001 a has 12 and worries 120 less 12
        Due.due("will(2)", x.will(2), 0);
        Due.due("cares(0, 1)", x.cares(0, 1), 5);
        Due.due("cares(0, 2)", x.cares(0, 2), 12);
        Due.due("burden(60)", x.burden(60), 16);
        Due.due("nights(0, 60)", x.nights(0, 60), 60);
        Due.due("returns(0)", x.returns(0), 1);
        Due.due("path(6)", x.path(6), 0);
        Due.lie(x, 0, 0, 0, 0, 0, 0);
        Due.due("calm()", x.calm(), 51);
        Due.due("spare(0, 1, 0)", x.spare(0, 1, 0), 2);
        Due.due("easing(0)", x.easing(0), 2);
        Due.due("odds(0, 0)", x.odds(0, 0), 1);
        Due.due("day()", x.day(), -2);
    }

    private static void ofNobody() {
        Due.part("==== 3: of an empty family");
        GreyHair x = new GreyHair();
        Due.due("will(0)", x.will(0), -1);
        Due.due("will(60)", x.will(60), -1);
        Due.due("cares(0, 0)", x.cares(0, 0), -1);
        Due.due("next()", x.next(), -1);
        Due.due("spare(0, 1, 0)", x.spare(0, 1, 0), -1);
        Due.due("easing(0)", x.easing(0), -1);
        Due.due("hush(0)", x.hush(0), 0);
        Due.due("hush(1)", x.hush(1), 0);
        Due.due("knows(0, 0)", x.knows(0, 0), -1);
        Due.due("wed()", x.wed(), -1);
        Due.due("nights(0, 0)", x.nights(0, 0), -1);
        Due.due("returns(0)", x.returns(0), -1);
        Due.due("rank()", x.rank(), 0);
        Due.lie(x);
        Due.due("words()", x.words(), 0);
        Due.due("peace()", x.peace(), 0);
        Due.due("burden(0)", x.burden(0), 0);
        Due.due("calm()", x.calm(), 0);
        Due.due("law(0)", x.law(0), 0);
        Due.due("odds(-1, 0)", x.odds(-1, 0), 1);
        Due.due("odds(-1, 1)", x.odds(-1, 1), 1);
        Due.due("odds(0, 0)", x.odds(0, 0), -1);
        Due.due("duel(0, 1)", x.duel(0, 1), -1);
        Due.due("path(1)", x.path(1), 1);
        Due.lie(x, -1);
        Due.due("silence(0, 0)", x.silence(0, 0), -1);
        Due.due("alone()", x.alone(), 0);
        Due.due("heaviest()", x.heaviest(), -1);
    }

    private static void dyedStays() {
        Due.part("==== 3: by what is now: dyed, it stays for one day");
        GreyHair x = Due.told(Due.cares(5, 30) + Due.knows("ba"));
        x.pluck();
        x.dye();
        Due.due("next()", x.next(), 0);
        Due.due("will(1)", x.will(1), 0);
        Due.due("will(2)", x.will(2), 1);
        Due.due("spare(0, 1, 0)", x.spare(0, 1, 0), -1);
        Due.due("spare(1, 1, 0)", x.spare(1, 1, 0), 0);
        // b has 30 and half of a's cares: 59 are as much
        Due.due("spare(1, 2, 0)", x.spare(1, 2, 0), 54);
        Due.due("easing(0)", x.easing(0), -1);
        Due.due("easing(1)", x.easing(1), 0);
        Due.due("hush(0)", x.hush(0), -1);
        Due.due("nights(0, 60)", x.nights(0, 60), 1);
        Due.due("returns(0)", x.returns(0), 1);
        Due.due("returns(1)", x.returns(1), 2);
        Due.due("words()", x.words(), 0);
        Due.due("peace()", x.peace(), -1);
        Due.due("calm()", x.calm(), -1);
        Due.due("odds(0, 0)", x.odds(0, 0), 1);
        Due.due("odds(0, 1)", x.odds(0, 1), 1);
        Due.due("odds(1, 0)", x.odds(1, 0), 0);
        Due.due("odds(-1, 1)", x.odds(-1, 1), 1);
        Due.due("silence(0, 0)", x.silence(0, 0), -1);
        Due.due("silence(1, 0)", x.silence(1, 0), 0);
        Due.due("duel(0, 1)", x.duel(0, 1), 1);
        Due.lie(x, 0, 0);
        Due.due("path(3)", x.path(3), 0);
        Due.lie(x, 0, 1, 1);
    }

    private static void willForDays() {
        Due.part("17: behind n days (0 .. 60)");
        // b's care goes up by 1 a day: he has it from day 60 on, a as long as they are alike
        GreyHair x = Due.told("person a of 0 cares 60;person b of 1 cares 1;grows house;");
        Due.due("will(0)", x.will(0), 0);
        Due.due("will(1)", x.will(1), 0);
        Due.due("will(59)", x.will(59), 0);
        Due.due("will(60)", x.will(60), 1);
        x = Due.told("person a of 0 cares 60;person b of 1 cares 0;grows house;");
        Due.due("will(60)", x.will(60), 0);
        x = Due.told(Due.cares(60) + "grows 0-1;");
        Due.due("will(59)", x.will(59), 0);
        Due.due("will(60)", x.will(60), -1);
        x.take(0, 9);
        x.pluck();
        Due.due("will(0) is where it is", x.will(0), -1);
        Due.due("will(1)", x.will(1), 0);
    }

    private static void willAsTheSeedTells() {
        Due.part("17: news as the seed tells");
        String text = "person a of 0 cares 9 news 30 of 3;person b of 1 cares 8 news 60 of 2;"
                + "person c of 0 cares 7 news 45 of 4;grows 0-has*3;ease 5;draw 123;";
        GreyHair x = Due.told(text);
        GreyHair y = Due.told(text);
        for (int n = 0; n <= 60; n++) {
            Due.due("will(" + n + ")", x.will(n), y.hair());
            y.day();
        }
        Due.due("the seed stays", x.about(5), 123);
    }

    private static void willRefused() {
        Due.part("17: -2 for another n");
        GreyHair x = Due.told(Due.cares(5));
        for (int n : new int[] {-1, 61, 62, LOW, HIGH}) {
            Due.due("will(" + n + ")", x.will(n), -2);
        }
    }

    private static void caresForDays() {
        Due.part("18: behind n days (0 .. 60)");
        GreyHair x = Due.told(Due.cares(3, 39, 40) + "grows 1;");
        Due.due("cares(0, 0)", x.cares(0, 0), 3);
        Due.due("cares(0, 1)", x.cares(0, 1), 4);
        Due.due("cares(0, 59)", x.cares(0, 59), 62);
        Due.due("cares(0, 60)", x.cares(0, 60), 63);
        Due.due("cares(1, 60)", x.cares(1, 60), 99);
        Due.due("cares(2, 60)", x.cares(2, 60), 99);
        x = Due.told(Due.cares(3) + "grows 0-1;");
        Due.due("cares(0, 3)", x.cares(0, 3), 0);
        Due.due("cares(0, 4)", x.cares(0, 4), 0);
    }

    private static void caresRefused() {
        Due.part("18: none if one can't be");
        GreyHair x = Due.told(Due.cares(5, 6));
        int[][] wrong = {{0, -1}, {0, 61}, {0, LOW}, {0, HIGH}, {-1, 0}, {2, 0}, {6, 0}, {LOW, 0}, {HIGH, 0}};
        for (int[] w : wrong) {
            Due.due("cares(" + w[0] + ", " + w[1] + ")", x.cares(w[0], w[1]), -1);
        }
        Due.due("the last one", x.cares(1, 0), 6);
    }

    private static void nextOnTheBrush() {
        Due.part("19: next; -1 on the brush");
        Due.due("on the brush", Due.told(Due.cares(5, 6) + "ease 7;").next(), -1);
        Due.due("as much as ease", Due.told(Due.cares(5, 6) + "ease 6;").next(), 1);
        Due.due("from the brush", Due.told(Due.cares(5, 6) + "ease 7;grows 1;").next(), 1);
        Due.due("to the brush", Due.told(Due.cares(5, 6) + "ease 6;grows 0-1;").next(), -1);
        Due.due("the last of six", Due.told(Due.cares(1, 1, 1, 1, 1, 2)).next(), 5);
    }

    private static void spare(GreyHair x, int person, int n, int much, int by) {
        Due.due("spare(" + person + ", " + n + ", 0)", x.spare(person, n, 0), much);
        Due.due("spare(" + person + ", " + n + ", 1)", x.spare(person, n, 1), by);
    }

    private static void leastCareOfAnother() {
        Due.part("20: the least care (0 .. 99) that one other person must take on");
        spare(Due.told(Due.cares(20, 20)), 0, 1, 1, 1);
        spare(Due.told(Due.cares(20, 15)), 0, 1, 6, 1);
        spare(Due.told(Due.cares(15, 20)), 1, 1, 5, 0);
        spare(Due.told(Due.cares(98, 0)), 0, 1, 99, 1);
        spare(Due.told(Due.cares(97, 0)), 0, 1, 98, 1);
        spare(Due.told(Due.cares(0, 99)), 1, 1, 99, 0);
        spare(Due.told(Due.cares(1, 99)), 1, 1, 98, 0);
        spare(Due.told(Due.cares(98, 98)), 0, 1, 1, 1);
        spare(Due.told(Due.cares(0, 90, 0, 0, 0, 0) + Due.knows("ab", "ac", "ad", "ae", "af") + "worry care;"), 1, 1, 90, 0);
        // one alone must take it on: two with half of it each do not do
        spare(Due.told(Due.cares(20, 10, 10)), 0, 1, 11, 1);
        // he himself would be spared by 46 more, but another one must take it on
        spare(Due.told(Due.cares(5, 50) + "worry 99-care;"), 0, 1, -1, -1);
    }

    private static void behindNoneOfTheNext() {
        Due.part("20: behind none of the next n (1 .. 20)");
        GreyHair x = Due.told("person a of 0 cares 50;person b of 1 cares 60;grows 0-house;");
        spare(x, 0, 1, 0, 1);
        spare(x, 0, 9, 0, 1);
        spare(x, 0, 10, 1, 1);
        spare(x, 0, 11, 2, 1);
        spare(x, 0, 19, 10, 1);
        spare(x, 0, 20, 11, 1);
        x = Due.told(Due.cares(50, 50) + "worry care+10-day*10;");
        // both have 50 on the first day, 40 on the second ..
        spare(x, 0, 2, 1, 1);
        x = Due.told("person a of 0 cares 30;person b of 1 cares 20;worry care*((day=1)=house);ease 1;");
        // b on the first day alone, a on all others: what b takes on does not help
        spare(x, 0, 1, 0, 1);
        spare(x, 0, 2, -1, -1);
        spare(x, 1, 1, -1, -1);
    }

    private static void theFirstWhoDoes() {
        Due.part("20: of like ones the first who does");
        spare(Due.told(Due.cares(20, 18, 18)), 0, 1, 3, 1);
        spare(Due.told(Due.cares(20, 17, 18)), 0, 1, 3, 2);
        spare(Due.told(Due.cares(18, 18, 20)), 2, 1, 2, 0);
        spare(Due.told(Due.cares(18, 20, 19)), 1, 1, 2, 0);
        spare(Due.told(Due.cares(17, 20, 18)), 1, 1, 3, 0);
        spare(Due.told(Due.cares(1, 1, 1, 1, 20, 19)), 4, 1, 2, 5);
    }

    private static void spareOfNothing() {
        Due.part("20: 0: it is on him behind none as it is; by whom (the first other one)");
        GreyHair x = Due.told(Due.cares(20, 18, 18));
        spare(x, 1, 20, 0, 0);
        spare(x, 2, 20, 0, 0);
        x = Due.told(Due.cares(20, 18, 18) + "ease 50;");
        spare(x, 0, 20, 0, 1);
        spare(x, 1, 20, 0, 0);
        x = Due.told(Due.cares(20, 99));
        spare(x, 0, 1, 0, 1);
    }

    private static void nobodyCan() {
        Due.part("20: none if nobody can");
        spare(Due.told(Due.cares(99, 0)), 0, 1, -1, -1);
        spare(Due.told(Due.cares(99, 98)), 0, 1, -1, -1);
        spare(Due.told(Due.cares(99, 99)), 0, 1, -1, -1);
        spare(Due.told(Due.cares(0, 99)), 0, 1, 0, 1);
        spare(Due.told("person a of 0 cares 5;person b of 1 cares 5;worry 1-house;"), 0, 1, -1, -1);
    }

    private static void heIsAlone() {
        Due.part("20: none if he is alone");
        spare(Due.told(Due.cares(5)), 0, 1, -1, -1);
        spare(Due.told(Due.cares(5) + "ease 9;"), 0, 1, -1, -1);
        spare(Due.told(Due.cares(0)), 0, 20, -1, -1);
    }

    private static void spareRefused() {
        Due.part("20: none if one can't be");
        GreyHair x = Due.told(Due.cares(5, 4));
        int[][] wrong = {{0, 0, 0}, {0, 21, 0}, {0, -1, 0}, {0, LOW, 0}, {0, HIGH, 0}, {0, 1, -1}, {0, 1, 2},
            {0, 1, LOW}, {0, 1, HIGH}, {-1, 1, 0}, {2, 1, 0}, {LOW, 1, 0}, {HIGH, 1, 0}, {1, 0, 0}, {1, 21, 0},
            {1, 1, 2}};
        for (int[] w : wrong) {
            Due.due("spare(" + w[0] + ", " + w[1] + ", " + w[2] + ")", x.spare(w[0], w[1], w[2]), -1);
        }
        Due.due("spare(1, 20, 0)", x.spare(1, 20, 0), 0);
    }

    private static void leastEasing() {
        Due.part("21: easing (0 .. 99): the least care of which he must be eased");
        Due.due("of like ones the first", Due.told(Due.cares(20, 15)).easing(0), 6);
        Due.due("of like ones the first", Due.told(Due.cares(15, 20)).easing(1), 5);
        Due.due("1", Due.told(Due.cares(20, 20)).easing(0), 1);
        Due.due("1 of 1", Due.told(Due.cares(1)).easing(0), 1);
        Due.due("99 of 99", Due.told(Due.cares(99)).easing(0), 99);
        Due.due("98 of 99", Due.told(Due.cares(99) + "ease 2;").easing(0), 98);
        Due.due("1 of 99", Due.told(Due.cares(99) + "ease 99;").easing(0), 1);
        Due.due("ahead of what grows", Due.told(Due.cares(50) + "grows 3;ease 20;").easing(0), 34);
        Due.due("the least, where all would not do", Due.told(Due.cares(9) + "worry care>8 or care<5;").easing(0), 1);
    }

    private static void easingOfNothing() {
        Due.part("21: 0: it is not on him as it is");
        Due.due("on another one", Due.told(Due.cares(20, 15)).easing(1), 0);
        Due.due("on the brush", Due.told(Due.cares(20) + "ease 21;").easing(0), 0);
        Due.due("on him now, not behind the next day", Due.told(Due.cares(2) + "grows 0-2;").easing(0), 0);
        Due.due("of no care", Due.told(Due.cares(0)).easing(0), 0);
    }

    private static void allHisCareIsNotEnough() {
        Due.part("21: none if all his care is not enough");
        Due.due("ease 0", Due.told(Due.cares(20) + "ease 0;").easing(0), -1);
        Due.due("no care", Due.told(Due.cares(0) + "ease 0;").easing(0), -1);
        Due.due("by what he knows", Due.told(Due.cares(9, 40) + Due.knows("ab") + "worry known;").easing(0), -1);
        Due.due("it grows again", Due.told(Due.cares(9) + "grows 1;").easing(0), -1);
    }

    private static void easingRefused() {
        Due.part("21: none if there is none such");
        GreyHair x = Due.told(Due.cares(5, 4));
        for (int person : new int[] {-1, 2, 6, LOW, HIGH}) {
            Due.due("easing(" + person + ")", x.easing(person), -1);
        }
    }

    private static void hush(String text, int count, int set) {
        GreyHair x = Due.told(text);
        Due.due("hush(0) of " + text, x.hush(0), count);
        Due.due("hush(1) of " + text, x.hush(1), set);
    }

    private static void fewestToBeForgotten() {
        Due.part("22: the fewest knows to be forgotten so that it is on nobody");
        String four = Due.cares(0, 5, 5, 10) + Due.knows("ab", "ac", "ad") + "worry known;";
        hush(four + "ease 21;", 0, 0);
        hush(four + "ease 20;", 1, 1);
        hush(four + "ease 16;", 1, 1);
        hush(four + "ease 15;", 1, 4);
        hush(four + "ease 11;", 1, 4);
        hush(four + "ease 10;", 2, 5);
        hush(four + "ease 6;", 2, 5);
        hush(four + "ease 5;", 3, 7);
        hush(four + "ease 1;", 3, 7);
    }

    private static void hushBehindTheNextDay() {
        Due.part("22: so that it is on nobody behind the next day");
        // a has it now and no more then; on day 1 alone there is worry; what is forgotten does not grow
        hush(Due.cares(5, 4) + Due.knows("ab") + "worry (care+known)*(1-has)*(known>0);", 0, 0);
        hush(Due.cares(5, 4) + Due.knows("ab", "ba") + "worry (care+known)*(1-has)*(known>0);", 1, 2);
        hush(Due.cares(5, 4) + Due.knows("ab") + "worry known*(day=1);", 1, 1);
        hush(Due.cares(0, 5, 5) + Due.knows("ab", "ac") + "worry known*(day=1);", 2, 3);
        hush(Due.cares(5, 4) + Due.knows("ab") + "worry known*(day=0);", 0, 0);
        hush(Due.cares(5, 4) + Due.knows("ab") + "worry known*(day=2);", 0, 0);
        hush(Due.cares(0, 4) + Due.knows("ab") + "grows known*2;worry care;ease 8;", 1, 1);
        hush(Due.cares(0, 4) + Due.knows("ab") + "grows known*2;worry care;ease 9;", 0, 0);
    }

    private static void leastSetOfKnows() {
        Due.part("22: of like ones the least set as bits (by the person who knows, then the other one)");
        String told = Due.cares(9, 9, 9, 0) + Due.knows("dc", "db", "da") + "worry known;";
        hush(told + "ease 20;", 1, 1);
        hush(told + "ease 10;", 2, 3);
        // d's are the second to the fourth, told ahead of a's
        told = Due.cares(9, 9, 9, 0) + Due.knows("dc", "da", "db", "ab") + "worry known;";
        hush(told + "ease 20;", 1, 2);
        hush(told + "ease 10;", 2, 6);
        hush(told + "ease 9;", 4, 15);
        // only the last of twelve counts, as f alone is of house 1
        told = SIX.replace("f of 0", "f of 1")
                + Due.knows("fa", "ab", "ac", "ad", "ae", "af", "ba", "bc", "bd", "be", "bf", "ca");
        hush(told + "worry known*house;", 1, 2048);
    }

    private static void hushOfNothing() {
        Due.part("22: 0 if it is on nobody as it is");
        hush(Due.cares(5, 4) + "ease 6;", 0, 0);
        hush(Due.cares(5, 4) + Due.knows("ab", "ba") + "ease 8;", 0, 0);
        hush("", 0, 0);
        hush(Due.cares(1) + "grows 0-1;", 0, 0);
        GreyHair x = Due.told(Due.cares(1) + "grows 0-1;");
        x.dye();
        Due.due("dyed", x.hush(0), -1);
        Due.due("dyed", x.hush(1), -1);
    }

    private static void hushOfAllTwelve() {
        Due.part("22: all twelve");
        hush(SIX + TWELVE_KNOW + "worry known;", 12, 4095);
        hush(SIX + TWELVE_KNOW + "worry known;ease 2;", 6, 1365);
        hush(SIX + TWELVE_KNOW + "worry known;ease 3;", 0, 0);
    }

    private static void allKnowsAreNotEnough() {
        Due.part("22: none if all are not enough");
        hush(SIX + TWELVE_KNOW, -1, -1);
        hush(SIX + TWELVE_KNOW + "ease 0;worry 0;", -1, -1);
        hush(Due.cares(5, 4), -1, -1);
        hush(Due.cares(5, 4) + "ease 5;", -1, -1);
    }

    private static void hushAnotherWhat() {
        Due.part("22: none for another what");
        GreyHair x = Due.told(Due.cares(5, 4) + "ease 6;");
        for (int what : new int[] {-1, 2, LOW, HIGH}) {
            Due.due("hush(" + what + ")", x.hush(what), -1);
        }
    }

    private static void inTheirOrder() {
        Due.part("23: the i-th of knows (by the person who knows, then the other one)");
        GreyHair x = Due.told(SIX + TWELVE_KNOW);
        int[][] wanted = {{0, 1}, {0, 2}, {1, 2}, {1, 3}, {2, 3}, {2, 4}, {3, 4}, {3, 5}, {4, 0}, {4, 5}, {5, 0}, {5, 1}};
        for (int i = 0; i < 12; i++) {
            Due.due("knows(" + i + ", 0)", x.knows(i, 0), wanted[i][0]);
            Due.due("knows(" + i + ", 1)", x.knows(i, 1), wanted[i][1]);
        }
        Due.due("knows(12, 0)", x.knows(12, 0), -1);
        Due.due("knows(12, 1)", x.knows(12, 1), -1);
        x.forget(0, 1);
        Due.due("that there are", x.knows(0, 1), 2);
        Due.due("knows(11, 0)", x.knows(11, 0), -1);
    }

    private static void knowsRefused() {
        Due.part("23: none if there is none such");
        GreyHair x = Due.told(Due.cares(5, 4) + Due.knows("ba"));
        Due.due("knows(0, 0)", x.knows(0, 0), 1);
        Due.due("knows(0, 1)", x.knows(0, 1), 0);
        int[][] wrong = {{-1, 0}, {1, 0}, {1, 1}, {LOW, 0}, {HIGH, 0}, {0, -1}, {0, 2}, {0, LOW}, {0, HIGH}};
        for (int[] w : wrong) {
            Due.due("knows(" + w[0] + ", " + w[1] + ")", x.knows(w[0], w[1]), -1);
        }
        Due.due("of none", Due.told(Due.cares(5, 4)).knows(0, 0), -1);
    }

    /** Persons with houses and cares, as "0:5 1:9". */
    private static GreyHair houses(String all) {
        StringBuilder text = new StringBuilder();
        char name = 'a';
        for (String one : all.split(" ")) {
            text.append("person ").append(name++).append(" of ").append(one, 0, 1);
            text.append(" cares ").append(one.substring(2)).append(';');
        }
        return Due.told(text.toString());
    }

    private static void wed(String all, int most, int... to) {
        GreyHair x = houses(all);
        Due.due("wed() of " + all, x.wed(), most);
        Due.lie(x, to);
    }

    private static void asManyAsCanBe() {
        Due.part("24: as many as can be");
        wed("0:0 1:0", 0, 1, 0);
        wed("1:99 0:99", 198, 1, 0);
        // a and c alone would have 0
        wed("0:0 0:99 1:0 1:99", 99, 3, 2, 1, 0);
        wed("0:1 0:2 0:3 1:1 1:2 1:3", 4, 5, 4, 3, 2, 1, 0);
        wed("0:9 0:8 0:7 0:6 0:5 1:1", 6, -1, -1, -1, -1, 5, 4);
        wed("0:1 1:9 1:8 1:7 1:6 1:5", 6, 5, -1, -1, -1, -1, 0);
        wed("0:5 0:5 0:5 0:5 1:9 1:1", 14, 4, 5, -1, -1, 0, 1);
        wed("1:5 1:5 1:5 1:5 0:9 0:1", 14, 4, 5, -1, -1, 0, 1);
    }

    private static void theMostIsLeast() {
        Due.part("24: so that the most that two have of cares together is least");
        wed("0:10 0:20 1:5 1:30", 40, 3, 2, 1, 0);
        wed("0:10 0:20 1:15 1:5", 25, 2, 3, 0, 1);
        // the most is 20 either way; the other two have 2 or 12
        wed("0:10 0:1 1:10 1:1", 11, 3, 2, 1, 0);
    }

    private static void theFirstOfLikeWeddings() {
        Due.part("24: of like ones the first (by persons of house 0: the least number, none behind all)");
        wed("0:5 0:5 1:5", 10, 2, -1, 0);
        wed("0:5 1:5 1:5", 10, 1, 0, -1);
        wed("0:5 0:5 1:5 1:5", 10, 2, 3, 0, 1);
        wed("1:5 1:5 0:5 0:5", 10, 2, 3, 0, 1);
        wed("0:5 0:5 0:5 1:5 1:5 1:5", 10, 3, 4, 5, 0, 1, 2);
        // the most is 14 by the second of all ways, too; that the others have less does not count
        wed("0:9 0:0 1:5 1:4", 13, 3, 2, 1, 0);
        wed("0:0 0:0 1:5 1:4", 5, 2, 3, 0, 1);
        wed("0:3 0:2 0:1 1:9 1:0", 10, 4, -1, 3, 2, 0);
    }

    private static void noTwoCanBe() {
        Due.part("24: none if no two can be; behind none: nothing");
        for (String all : new String[] {"0:5", "1:5", "0:5 0:4", "1:5 1:4", "0:1 0:1 0:1 0:1 0:1 0:1",
            "1:1 1:1 1:1 1:1 1:1 1:1"}) {
            GreyHair x = houses(all);
            x.rank();
            Due.due("wed() of " + all, x.wed(), -1);
            Due.lie(x);
        }
        Due.due("of nobody", new GreyHair().wed(), -1);
    }

    private static void nightsForDays() {
        Due.part("25: nights (n 0 .. 60)");
        GreyHair x = Due.told(Due.cares(60, 1) + "grows 0-1;");
        Due.due("nights(0, 0)", x.nights(0, 0), 0);
        Due.due("nights(0, 1)", x.nights(0, 1), 1);
        Due.due("nights(0, 59)", x.nights(0, 59), 59);
        Due.due("on the brush behind the last", x.nights(0, 60), 59);
        Due.due("nights(1, 60)", x.nights(1, 60), 0);
        Due.due("all nights", Due.told(Due.cares(1, 9)).nights(1, 60), 60);
        x = Due.told(Due.cares(1, 9));
        x.pluck();
        Due.due("now is no night", x.nights(0, 60), 0);
    }

    private static void nightsRefused() {
        Due.part("25: none if one can't be");
        GreyHair x = Due.told(Due.cares(5, 4));
        int[][] wrong = {{0, -1}, {0, 61}, {0, LOW}, {0, HIGH}, {-1, 0}, {-1, 5}, {2, 0}, {LOW, 0}, {HIGH, 0}};
        for (int[] w : wrong) {
            Due.due("nights(" + w[0] + ", " + w[1] + ")", x.nights(w[0], w[1]), -1);
        }
    }

    private static void returnsFirst() {
        Due.part("26: return (1 .. 60): behind how many days it is on a person first");
        GreyHair x = Due.told(Due.cares(9, 5));
        Due.due("on him now and tomorrow", x.returns(0), 1);
        x = Due.told(Due.cares(9, 5) + "worry care-has*5;");
        Due.due("on him now, not tomorrow", x.returns(0), 2);
        Due.due("tomorrow", x.returns(1), 1);
        x = Due.told("person a of 0 cares 60;person b of 1 cares 1;grows house;");
        Due.due("behind 60", x.returns(1), 60);
        x.take(1, 1);
        Due.due("behind 59", x.returns(1), 59);
    }

    private static void returnsNever() {
        Due.part("26: none if never in these");
        GreyHair x = Due.told("person a of 0 cares 60;person b of 1 cares 0;grows house;");
        Due.due("behind 61", x.returns(1), -1);
        x = Due.told(Due.cares(9) + "grows 0-9;");
        Due.due("on him now and never again", x.returns(0), -1);
    }

    private static void returnsRefused() {
        Due.part("26: none if there is none such");
        GreyHair x = Due.told(Due.cares(9) + "ease 10;");
        for (int person : new int[] {-1, 1, 6, LOW, HIGH}) {
            Due.due("returns(" + person + ")", x.returns(person), -1);
        }
    }

    private static void rankInOrder() {
        Due.part("27: all persons by worry, the most first, of like ones the lesser number");
        GreyHair x = Due.told(Due.cares(1, 2, 3, 4, 5, 6));
        Due.due("rank()", x.rank(), 6);
        Due.lie(x, 5, 4, 3, 2, 1, 0);
        x = Due.told(Due.cares(6, 5, 4, 3, 2, 1));
        x.rank();
        Due.lie(x, 0, 1, 2, 3, 4, 5);
        x = Due.told(Due.cares(4, 4, 4, 4, 4, 4));
        x.rank();
        Due.lie(x, 0, 1, 2, 3, 4, 5);
        x = Due.told(Due.cares(1, 2, 1, 2, 1, 2));
        x.rank();
        Due.lie(x, 1, 3, 5, 0, 2, 4);
        x = Due.told(Due.cares(11, 99, 1) + "worry care*100;");
        x.rank();
        Due.lie(x, 0, 1, 2);
        x = Due.told(Due.cares(9, 5, 1) + "worry 0-care;");
        x.rank();
        Due.lie(x, 0, 1, 2);
    }

    private static void rankOfSome() {
        Due.part("27: how many");
        int[] wanted = {0, 1, 2, 3, 4, 5, 6};
        for (int persons = 0; persons <= 6; persons++) {
            GreyHair x = Due.told(Due.cares(new int[persons]));
            Due.due("rank()", x.rank(), wanted[persons]);
            Due.due("about(12)", x.about(12), persons);
        }
    }

    private static void wordsThatBringIt() {
        Due.part("28: so that it would be on him behind the next day, if he were told now");
        Due.due("of like ones the first", Due.told(Due.cares(15, 30)).words(), 1);
        Due.due("one less", Due.told(Due.cares(14, 30)).words(), 0);
        Due.due("of like ones not the second", Due.told(Due.cares(30, 15)).words(), 0);
        Due.due("one more", Due.told(Due.cares(30, 16)).words(), 1);
        Due.due("from the brush", Due.told(Due.cares(6, 6) + "ease 9;").words(), 2);
        Due.due("less than ease", Due.told(Due.cares(6, 6) + "ease 10;").words(), 0);
        Due.due("each of five by the first's",
                Due.told(Due.cares(99, 0, 0, 0, 0, 0) + "worry known;ease 1;").words(), 5);
        Due.due("all twos there are", Due.told(SIX + "worry known;").words(), 30);
        Due.due("of what grows by it", Due.told(Due.cares(9, 0) + "grows known*3;worry care;").words(), 1);
    }

    private static void wordsThatDoNot() {
        Due.part("28: of whose cares he does not know, and is not as it is");
        Due.due("he knows already", Due.told(Due.cares(6, 6) + Due.knows("ab") + "ease 20;").words(), 0);
        // a has it, and would have it by a word, too
        Due.due("he has it as it is", Due.told(Due.cares(30, 5)).words(), 0);
        // b has it tomorrow as it is; a would by a word of b, who has it now would not count
        Due.due("tomorrow, not now",
                Due.told("person a of 0 cares 9;person b of 1 cares 8;person c of 0 cares 0;grows house*2;").words(), 1);
        Due.due("one alone", Due.told(Due.cares(30)).words(), 0);
        Due.due("nobody", Due.told("").words(), 0);
    }

    private static void howeverManyKnow() {
        Due.part("28: however many know");
        String twelve = Due.cares(40, 1, 1, 1, 1, 1)
                + Due.knows("bc", "bd", "be", "cb", "cd", "ce", "db", "dc", "de", "eb", "ec", "ed");
        GreyHair x = Due.told(twelve + "worry care+known;");
        Due.due("about(1)", x.about(1), 12);
        Due.due("words()", x.words(), 5);
        Due.due("though none can be told", x.tell(5, 0), -1);
    }

    private static void peaceFirst() {
        Due.part("29: behind how many days (0 .. 60) it lies on the brush first");
        Due.due("now", Due.told(Due.cares(5) + "ease 6;").peace(), 0);
        Due.due("now, and not tomorrow", Due.told(Due.cares(5) + "ease 6;grows 1;").peace(), 0);
        Due.due("behind 1", Due.told(Due.cares(1) + "grows 0-1;").peace(), 1);
        Due.due("behind 59", Due.told(Due.cares(59) + "grows 0-1;").peace(), 59);
        Due.due("behind 60", Due.told(Due.cares(60) + "grows 0-1;").peace(), 60);
    }

    private static void peaceNever() {
        Due.part("29: none if never in these");
        Due.due("behind 61", Due.told(Due.cares(61) + "grows 0-1;").peace(), -1);
        Due.due("never", Due.told(Due.cares(5)).peace(), -1);
        Due.due("ease 0", Due.told(Due.cares(0) + "ease 0;").peace(), -1);
    }

    private static void burdenForDays() {
        Due.part("30: cares of all behind n days (0 .. 60) together");
        GreyHair x = Due.told(Due.cares(1, 2, 3, 4, 5, 6) + "grows 1;");
        Due.due("burden(0)", x.burden(0), 21);
        Due.due("burden(1)", x.burden(1), 27);
        Due.due("burden(59)", x.burden(59), 21 + 6 * 59);
        Due.due("burden(60)", x.burden(60), 21 + 6 * 60);
        x = Due.told(Due.cares(99, 99, 99, 99, 99, 99) + "grows 9;");
        Due.due("the most", x.burden(60), 594);
        x = Due.told(Due.cares(0, 1) + "grows 0-9;");
        Due.due("the least", x.burden(60), 0);
    }

    private static void burdenRefused() {
        Due.part("30: none for another n");
        GreyHair x = Due.told(Due.cares(1, 2));
        for (int n : new int[] {-1, 61, LOW, HIGH}) {
            Due.due("burden(" + n + ")", x.burden(n), -1);
        }
    }

    private static void leastEase() {
        Due.part("31: the least ease (0 .. 999) by which it would lie on the brush");
        Due.due("0", Due.told("ease 5;").calm(), 0);
        Due.due("1", Due.told(Due.cares(0, 0)).calm(), 1);
        Due.due("1", Due.told(Due.cares(9, 9) + "worry 0-care;").calm(), 1);
        Due.due("one more than the most", Due.told(Due.cares(5, 30, 6)).calm(), 31);
        Due.due("behind the next day", Due.told(Due.cares(5, 30, 6) + "grows 2;").calm(), 33);
        Due.due("on the next day", Due.told(Due.cares(5) + "worry 7+day;").calm(), 9);
        Due.due("999", Due.told(Due.cares(5) + "worry 998;").calm(), 999);
        Due.due("998", Due.told(Due.cares(5) + "worry 997;").calm(), 998);
        Due.due("has is by where it is now", Due.told(Due.cares(5, 4) + "worry care-has*4;").calm(), 5);
    }

    private static void noEase() {
        Due.part("31: none if there is none such");
        Due.due("worry 999", Due.told(Due.cares(5) + "worry 999;").calm(), -1);
        Due.due("worry 9999", Due.told(Due.cares(5) + "worry 9999;").calm(), -1);
        GreyHair x = Due.told(Due.cares(5));
        x.dye();
        Due.due("dyed", x.calm(), -1);
    }

    private static void lawOfSome() {
        Due.part("32: how many would have worry of as much as ease now, if ease were n (0 .. 999)");
        GreyHair x = Due.told(Due.cares(0, 5, 5, 9) + "worry care*111;grows 9;ease 7;");
        int[][] wanted = {{0, 4}, {1, 3}, {554, 3}, {555, 3}, {556, 1}, {998, 1}, {999, 1}};
        for (int[] w : wanted) {
            Due.due("law(" + w[0] + ")", x.law(w[0]), w[1]);
        }
        Due.due("of 998", Due.told(Due.cares(5) + "worry 998;").law(999), 0);
        Due.due("of more than 999", Due.told(Due.cares(5) + "worry 9999;").law(999), 1);
        Due.due("of six", Due.told(SIX).law(1), 6);
    }

    private static void lawRefused() {
        Due.part("32: none for another n");
        GreyHair x = Due.told(SIX);
        for (int n : new int[] {-1, 1000, 1001, LOW, HIGH}) {
            Due.due("law(" + n + ")", x.law(n), -1);
        }
    }

    private static void odds(GreyHair x, int person, int upper, int lower) {
        Due.due("odds(" + person + ", 0)", x.odds(person, 0), upper);
        Due.due("odds(" + person + ", 1)", x.odds(person, 1), lower);
    }

    private static void inLowestTerms() {
        Due.part("33: the upper part (0), the lower part (1), in lowest terms");
        int[][] all = {{1, 1, 100}, {2, 1, 50}, {25, 1, 4}, {37, 37, 100}, {40, 2, 5}, {50, 1, 2}, {75, 3, 4}, {99, 99, 100}};
        for (int[] one : all) {
            GreyHair x = Due.told("person a of 0 cares 20;person b of 1 cares 15 news " + one[0] + " of 6;");
            odds(x, 1, one[1], one[2]);
        }
        GreyHair x = Due.told("person f of 0 cares 0;person g of 1 cares 0;"
                + "person a of 0 cares 0 news 37 of 1;person b of 0 cares 0 news 41 of 1;"
                + "person c of 0 cares 0 news 43 of 1;person d of 0 cares 0 news 47 of 1;"
                + Due.knows("ga", "gb", "gc", "gd") + "worry (known=4)*house;");
        // on g only if news come to all four
        odds(x, 1, 37 * 41 * 43 * 47, 100000000);
        odds(x, -1, 100000000 - 37 * 41 * 43 * 47, 100000000);
    }

    private static void zeroOfOne() {
        Due.part("33: 0 of 1");
        GreyHair x = Due.told("person a of 0 cares 20;person b of 1 cares 15 news 0 of 20;");
        odds(x, 0, 1, 1);
        odds(x, 1, 0, 1);
        odds(x, -1, 0, 1);
        x = Due.told("person a of 0 cares 20;person b of 1 cares 15 news 100 of 20;");
        odds(x, 0, 0, 1);
        odds(x, 1, 1, 1);
        x = Due.told("person a of 0 cares 20;person b of 1 cares 15 news 50 of 5;");
        odds(x, 0, 1, 1);
        odds(x, 1, 0, 1);
        x = Due.told(Due.cares(1, 1) + "ease 2;");
        odds(x, -1, 1, 1);
        odds(x, 0, 0, 1);
    }

    private static void byItself() {
        Due.part("33: news coming to each by itself");
        GreyHair x = Due.told("person a of 0 cares 0 news 50 of 1;person b of 0 cares 0 news 50 of 1;"
                + "person c of 0 cares 0 news 50 of 1;person d of 0 cares 0 news 50 of 1;");
        odds(x, 0, 1, 2);
        odds(x, 1, 1, 4);
        odds(x, 2, 1, 8);
        odds(x, 3, 1, 16);
        odds(x, -1, 1, 16);
        x = Due.told("person a of 0 cares 90 news 50 of 20;person b of 0 cares 99;");
        odds(x, 0, 1, 2);
        x = Due.told("person a of 0 cares 5 news 50 of 1;person b of 0 cares 5;grows 0-9;");
        odds(x, 0, 1, 2);
        odds(x, -1, 1, 2);
        x = Due.told("person a of 0 cares 5 news 50 of 1;person b of 0 cares 5;draw 17;");
        x.day();
        odds(x, 0, 1, 1);
    }

    private static void oddsRefused() {
        Due.part("33: none if one can't be");
        GreyHair x = Due.told(Due.cares(5, 4));
        int[][] wrong = {{-2, 0}, {2, 0}, {6, 1}, {LOW, 0}, {HIGH, 1}, {0, -1}, {0, 2}, {-1, -1}, {-1, 2}, {0, LOW},
            {0, HIGH}};
        for (int[] w : wrong) {
            Due.due("odds(" + w[0] + ", " + w[1] + ")", x.odds(w[0], w[1]), -1);
        }
    }

    private static void duel(String text, int person, int other, int rests, int... first) {
        GreyHair x = Due.told(text);
        Due.due("duel(" + person + ", " + other + ") of " + text, x.duel(person, other), rests);
        Due.lie(x, first);
    }

    private static void zeroToNine() {
        Due.part("34: both take on 0 .. 9");
        duel(Due.cares(20, 12, 0), 1, 2, 1, 9, 0);
        duel(Due.cares(20, 12, 0), 2, 1, 1, 0, 9);
        duel(Due.cares(20, 11, 0), 1, 2, 1, 0, 0);
        duel(Due.cares(20, 20, 0), 1, 2, 1, 1, 0);
        duel(Due.cares(20, 10), 0, 1, 1, 0, 0);
        duel(Due.cares(20, 10), 1, 0, 1, 0, 0);
        // 10 behind him, b can be as much, but a is the first; 9 behind him, b can have more
        duel(Due.cares(20, 11), 0, 1, 1, 0, 0);
        duel(Due.cares(20, 12), 0, 1, 0);
        duel(Due.cares(11, 20), 0, 1, 0);
        duel(Due.cares(10, 20), 0, 1, 1, 0, 0);
    }

    private static void lessIsBetter() {
        Due.part("34: to have it is better than not, else less care taken on is better");
        duel(Due.cares(50, 30, 20) + "ease 51;", 0, 1, 1, 1, 0);
        duel(Due.cares(50, 30, 20) + "ease 59;", 1, 0, 1, 0, 9);
        duel(Due.cares(50, 30, 20) + "ease 60;", 0, 1, 1, 0, 0);
        duel(Due.cares(5, 5, 50), 0, 1, 1, 0, 0);
        // a has it as long as he takes on nothing; what b takes on does not count at all
        duel("person a of 0 cares 0;person b of 1 cares 0;knows b a;worry (1-house)*5+(known>0)*9;", 0, 1, 1, 0, 0);
        duel("person a of 0 cares 0;person b of 1 cares 0;knows b a;worry (1-house)*5+(known>0)*9;", 1, 0, 1, 0, 0);
    }

    private static void duel99AtMost() {
        Due.part("34: take on 99 at most");
        // a by 4 is as much as b, who can have no more
        duel(Due.cares(95, 99), 0, 1, 1, 4, 0);
        duel(Due.cares(95, 99), 1, 0, 1, 0, 4);
        duel(Due.cares(99, 95), 0, 1, 1, 0, 0);
        duel(Due.cares(98, 99), 0, 1, 1, 1, 0);
    }

    private static void noRests() {
        Due.part("34: how many rests; behind 0: nothing");
        GreyHair x = Due.told(Due.cares(20, 15));
        x.rank();
        Due.due("duel(0, 1)", x.duel(0, 1), 0);
        Due.lie(x);
    }

    private static void theFirstOfRests() {
        Due.part("34: the first of these lies there (the first one's, the other one's)");
        // who takes on some keeps the other from it: (0, 1) and (1, 0)
        String text = Due.cares(0, 0) + Due.knows("ab", "ba") + "worry care*(known=0);";
        duel(text, 0, 1, 2, 0, 1);
        duel(text, 1, 0, 2, 0, 1);
        text = "person a of 0 cares 0;person b of 1 cares 0;" + Due.knows("ab", "ba")
                + "worry care=known+1-house;";
        // a has it one above b; b has it where both are alike
        duel(text, 0, 1, 0);
        duel(text, 1, 0, 0);
        text = Due.cares(0, 0) + Due.knows("ab", "ba") + "worry (care=known)*care;";
        // alike they have it, a as the first, and less is better for b, who has it never
        duel(text, 0, 1, 1, 0, 0);
    }

    private static void duelRefused() {
        Due.part("34: none if both are one, or one can't be; behind none: nothing");
        GreyHair x = Due.told(Due.cares(20, 15));
        int[][] wrong = {{0, 0}, {1, 1}, {-1, 0}, {0, -1}, {2, 0}, {0, 2}, {-1, -1}, {2, 2}, {LOW, 0}, {0, HIGH}};
        for (int[] w : wrong) {
            x.rank();
            Due.due("duel(" + w[0] + ", " + w[1] + ")", x.duel(w[0], w[1]), -1);
            Due.lie(x);
        }
    }

    private static void pathForDays() {
        Due.part("35: whom the hair is on behind each of n days (1 .. 6)");
        GreyHair x = Due.told(Due.cares(9, 3) + "worry care-has*7;");
        // a, then b (3 and 2), then a ..
        int[] all = {1, 0, 1, 0, 1, 0};
        for (int n = 1; n <= 6; n++) {
            Due.due("path(" + n + ")", x.path(n), 0);
            Due.lie(x, java.util.Arrays.copyOf(all, n));
        }
        x = Due.told(Due.cares(3) + "grows 0-1;");
        int[] brush = {0, 0, 1, 2, 3, 4};
        int[] where = {0, 0, -1, -1, -1, -1};
        for (int n = 1; n <= 6; n++) {
            Due.due("path(" + n + ")", x.path(n), brush[n - 1]);
            Due.lie(x, java.util.Arrays.copyOf(where, n));
        }
    }

    private static void pathRefused() {
        Due.part("35: none, and nothing, for another n");
        GreyHair x = Due.told(Due.cares(9, 3));
        for (int n : new int[] {0, 7, -1, 8, LOW, HIGH}) {
            x.path(3);
            Due.due("path(" + n + ")", x.path(n), -1);
            Due.lie(x);
        }
    }

    private static void silence(GreyHair x, int person, int count, int set) {
        Due.due("silence(" + person + ", 0)", x.silence(person, 0), count);
        Due.due("silence(" + person + ", 1)", x.silence(person, 1), set);
    }

    private static void fewestOthers() {
        Due.part("36: the fewest others of whose cares he must know no more");
        silence(Due.told(SIX + Due.knows("ab", "ac", "ad", "ae", "af") + "worry known;"), 0, 5, 62);
        silence(Due.told(SIX + Due.knows("fa", "fb", "fc", "fd", "fe") + "worry known;"), 5, 5, 31);
        String four = Due.cares(0, 5, 5, 10) + Due.knows("ab", "ac", "ad") + "worry known;";
        silence(Due.told(four + "ease 20;"), 0, 1, 2);
        silence(Due.told(four + "ease 15;"), 0, 1, 8);
        silence(Due.told(four + "ease 10;"), 0, 2, 10);
        silence(Due.told(four + "ease 5;"), 0, 3, 14);
        silence(Due.told(four + "ease 21;"), 0, 0, 0);
        silence(Due.told(four + "ease 20;"), 3, 0, 0);
        // another one has it then
        silence(Due.told(Due.cares(12, 15, 0, 20) + Due.knows("ad")), 0, 1, 8);
        silence(Due.told(Due.cares(9, 15) + Due.knows("ab") + "worry care+known;"), 0, 1, 2);
    }

    private static void leastSetOfOthers() {
        Due.part("36: of like ones the least set as bits");
        String four = Due.cares(9, 9, 0, 9) + Due.knows("cd", "cb", "ca") + "worry known;";
        silence(Due.told(four + "ease 20;"), 2, 1, 1);
        silence(Due.told(four + "ease 10;"), 2, 2, 3);
        silence(Due.told(four + "ease 9;"), 2, 3, 11);
    }

    private static void allOthersAreNotEnough() {
        Due.part("36: none if all are not enough");
        silence(Due.told(Due.cares(9, 5)), 0, -1, -1);
        silence(Due.told(Due.cares(9, 5) + Due.knows("ab")), 0, -1, -1);
        silence(Due.told(Due.cares(0, 0) + Due.knows("ab") + "ease 0;"), 0, -1, -1);
        // what b knows of a is b's to forget, not a's
        silence(Due.told(Due.cares(9, 6, 8) + Due.knows("ba")), 1, 1, 1);
        silence(Due.told(Due.cares(9, 6, 8) + Due.knows("ba")), 0, 0, 0);
        silence(Due.told(Due.cares(9, 5, 8) + Due.knows("ba")), 0, -1, -1);
    }

    private static void silenceRefused() {
        Due.part("36: none if one can't be");
        GreyHair x = Due.told(Due.cares(9, 5) + "ease 10;");
        int[][] wrong = {{-1, 0}, {2, 0}, {LOW, 0}, {HIGH, 0}, {0, -1}, {0, 2}, {0, LOW}, {0, HIGH}};
        for (int[] w : wrong) {
            Due.due("silence(" + w[0] + ", " + w[1] + ")", x.silence(w[0], w[1]), -1);
        }
        silence(x, 1, 0, 0);
    }

    private static void aloneAsBits() {
        Due.part("37: persons who know of nobody's cares, and of whose nobody knows, as bits");
        Due.due("nobody", Due.told("").alone(), 0);
        Due.due("one", Due.told(Due.cares(0)).alone(), 1);
        Due.due("all six", Due.told(SIX).alone(), 63);
        Due.due("neither who knows nor whose", Due.told(SIX + Due.knows("af")).alone(), 30);
        Due.due("neither who knows nor whose", Due.told(SIX + Due.knows("fa")).alone(), 30);
        Due.due("none", Due.told(SIX + Due.knows("ab", "cd", "ef")).alone(), 0);
        GreyHair x = Due.told(SIX + Due.knows("af"));
        x.forget(0, 5);
        Due.due("no more", x.alone(), 63);
    }

    private static void heaviestFirst() {
        Due.part("38: the person of most care; of like ones the first; none without persons");
        Due.due("without", Due.told("").heaviest(), -1);
        Due.due("no care", Due.told(Due.cares(0, 0)).heaviest(), 0);
        Due.due("the first", Due.told(Due.cares(4, 9, 9)).heaviest(), 1);
        Due.due("the last", Due.told(Due.cares(1, 1, 1, 1, 1, 2)).heaviest(), 5);
        Due.due("99", Due.told(Due.cares(98, 99, 99)).heaviest(), 1);
        Due.due("by care, not by worry", Due.told(Due.cares(4, 9) + "worry 99-care;").heaviest(), 1);
    }

    private static void theNumbersThatLie() {
        Due.part("39: the i-th number of what lies there; -2 if there is none such");
        GreyHair x = new GreyHair();
        for (int i : new int[] {0, 1, 5, 6, -1, LOW, HIGH}) {
            Due.due("lies(" + i + ") of nothing", x.lies(i), -2);
        }
        x = Due.told(Due.cares(1, 2, 3, 4, 5, 6));
        x.rank();
        int[][] wanted = {{0, 5}, {5, 0}, {6, -2}, {7, -2}, {-1, -2}, {LOW, -2}, {HIGH, -2}};
        for (int[] w : wanted) {
            Due.due("lies(" + w[0] + ")", x.lies(w[0]), w[1]);
        }
        x.path(1);
        Due.due("fewer than before", x.lies(1), -2);
        Due.due("lies(0)", x.lies(0), 5);
    }

    private static void liesBehindARefusedCall() {
        Due.part("24, 34, 35, 39: what lies there behind a refused call");
        GreyHair x = Due.told(Due.cares(9, 3));
        x.rank();
        Due.due("wed()", x.wed(), -1);
        Due.lie(x);
        x.rank();
        Due.due("duel(0, 0)", x.duel(0, 0), -1);
        Due.lie(x);
        x.rank();
        Due.due("path(0)", x.path(0), -1);
        Due.lie(x);
        x.rank();
        Due.due("family()", Due.tell(x, "$"), -1);
        Due.lie(x, 0, 1);
        Due.due("spare(2, 1, 0)", x.spare(2, 1, 0), -1);
        Due.due("hush(2)", x.hush(2), -1);
        Due.due("will(61)", x.will(61), -2);
        Due.due("lies(2)", x.lies(2), -2);
        Due.due("back(0)", x.back(0), -1);
        Due.due("tell(0, 0)", x.tell(0, 0), -1);
        Due.lie(x, 0, 1);
    }

    private static void liesOn() {
        Due.part("39: what lies there stays till other numbers do");
        GreyHair x = Due.told(Due.cares(9, 3) + "worry care-has*7;");
        x.path(4);
        x.day();
        x.undo();
        x.redo();
        x.next();
        x.spare(0, 3, 0);
        x.hush(0);
        x.silence(0, 0);
        x.odds(0, 0);
        x.image(0);
        x.back(0);
        x.seen(0, 0, true);
        x.ask(0, 0);
        x.feed(0, 0, 0, 0, 0);
        Due.lie(x, 1, 0, 1, 0);
        x.duel(0, 1);
        Due.due("about(12)", x.about(12) == 4, false);
    }
}
