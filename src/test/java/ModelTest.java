import java.util.Random;

/** Random runs of calls, each answer compared with the model's. */
public final class ModelTest {
    private static final int RUNS = 700;
    private static final int FAULT_TEXTS = 60000;
    private static final int MOST_WRONG = 20;
    private static int wrong = 0;
    private static int lastRun = -1;

    public static void main(String[] args) {
        for (int run = 0; run < RUNS && wrong < MOST_WRONG; run++) {
            new Pair(run).play();
        }
        Random random = new Random(77);
        Pair pair = new Pair(-1);
        for (int i = 0; i < FAULT_TEXTS && wrong < MOST_WRONG; i++) {
            String text = Texts.damaged(random);
            pair.tellFamily(text);
        }
        System.out.println(wrong == 0 ? "the class answers as the model" : wrong + " answers differ");
        System.exit(wrong == 0 ? 0 : 1);
    }

    private static final class Pair {
        final int run;
        final Random random;
        final GreyHair x = new GreyHair();
        final Model m = new Model();
        String text = "";

        Pair(int run) {
            this.run = run;
            this.random = new Random(1000 + run);
        }

        void same(String call, int got, int want) {
            if (got == want) {
                return;
            }
            wrong++;
            if (lastRun != run || run < 0) {
                System.out.println("text: " + text);
            }
            lastRun = run;
            System.out.println("run " + run + ": " + call + " answered " + got + ", the model " + want);
        }

        void tellFamily(String told) {
            text = told;
            byte[] bytes = new byte[(told.length() + 19) / 20 * 20];
            for (int i = 0; i < told.length(); i++) {
                bytes[i] = (byte) told.charAt(i);
            }
            for (int i = 0; i < bytes.length; i += 20) {
                int[] n = new int[5];
                for (int j = 0; j < 20; j++) {
                    n[j / 4] = n[j / 4] << 8 | bytes[i + j] & 255;
                }
                same("feed", x.feed(n[0], n[1], n[2], n[3], n[4]), m.feed(n[0], n[1], n[2], n[3], n[4]));
            }
            same("end", x.end(told.length()), m.end(told.length()));
            same("family", x.family(), m.family());
            same("fault(0)", x.fault(0), m.fault(0));
            same("fault(1)", x.fault(1), m.fault(1));
        }

        void play() {
            if (random.nextInt(20) > 0) {
                tellFamily(Texts.whole(random));
            }
            int style = random.nextInt(4);
            for (int i = 0; i < 400; i++) {
                if (random.nextInt(150) == 0) {
                    tellFamily(random.nextInt(4) == 0 ? Texts.damaged(random) : Texts.whole(random));
                }
                if (style == 0 ? random.nextInt(3) > 0 : random.nextBoolean()) {
                    act();
                } else if (random.nextInt(3) == 0) {
                    seeOrKeep();
                } else {
                    question();
                }
            }
            compareAll();
        }

        int person() {
            return random.nextInt(25) == 0 ? random.nextInt(12) - 3 : random.nextInt(Math.max(1, m.persons()));
        }

        int wrongly(int least, int most) {
            if (random.nextInt(25) == 0) {
                int[] odd = {least - 1, most + 1, Integer.MIN_VALUE, Integer.MAX_VALUE, -7};
                return odd[random.nextInt(odd.length)];
            }
            return least + random.nextInt(most - least + 1);
        }

        void act() {
            int a = person();
            int b = person();
            int c = wrongly(1, 9);
            switch (random.nextInt(12)) {
                case 0, 1 -> same("day()", x.day(), m.day());
                case 2 -> same("ease", x.ease(a, c), m.ease(a, c));
                case 3 -> same("take", x.take(a, c), m.take(a, c));
                case 4, 5 -> same("tell", x.tell(a, b), m.tell(a, b));
                case 6 -> same("forget", x.forget(a, b), m.forget(a, b));
                case 7 -> same("pluck", x.pluck(), m.pluck());
                case 8 -> same("dye", x.dye(), m.dye());
                case 9, 10 -> {
                    for (int i = random.nextInt(4) == 0 ? 45 : 2; i >= 0; i--) {
                        same("undo", x.undo() ? 1 : 0, m.undo() ? 1 : 0);
                    }
                }
                default -> {
                    for (int i = random.nextInt(4) == 0 ? 45 : 1; i >= 0; i--) {
                        same("redo", x.redo() ? 1 : 0, m.redo() ? 1 : 0);
                    }
                }
            }
            compareState();
        }

        void compareState() {
            for (int what = -1; what <= 13; what++) {
                same("about(" + what + ")", x.about(what), m.about(what));
            }
            same("hair()", x.hair(), m.hair());
            for (int p = -1; p <= m.persons(); p++) {
                for (int what = -1; what <= 7; what++) {
                    same("person(" + p + ", " + what + ")", x.person(p, what), m.person(p, what));
                }
            }
        }

        void compareLying() {
            for (int i = -1; i <= 7; i++) {
                same("lies(" + i + ")", x.lies(i), m.lies(i));
            }
        }

        void seeOrKeep() {
            int a = wrongly(-1, Math.max(0, m.persons() - 1));
            int k = wrongly(0, m.time + 2);
            int w = wrongly(0, 1);
            int box = wrongly(0, 2);
            switch (random.nextInt(9)) {
                case 0 -> {
                    int day = wrongly(0, 9);
                    boolean is = random.nextInt(3) == 0;
                    same("seen", x.seen(day, a, is), m.seen(day, a, is));
                }
                case 1 -> {
                    int which = wrongly(0, 30);
                    same("untell", x.untell(which) ? 1 : 0, m.untell(which) ? 1 : 0);
                }
                case 2 -> {
                    int by = random.nextInt(3) == 0 ? wrongly(0, 1000) : wrongly(0, 2);
                    same("later", x.later(by), m.later(by));
                }
                case 3 -> same("fits", x.fits(k), m.fits(k));
                case 4 -> same("sure", x.sure(w, k), m.sure(w, k));
                case 5 -> same("ask", x.ask(w, k), m.ask(w, k));
                case 6 -> same("image", x.image(box), m.image(box));
                default -> {
                    same("back", x.back(box), m.back(box));
                    compareState();
                }
            }
        }

        void question() {
            int a = person();
            int b = person();
            int w = wrongly(0, 1);
            int n = wrongly(0, 60);
            switch (random.nextInt(22)) {
                case 0 -> same("will " + n, x.will(n), m.will(n));
                case 1 -> same("cares", x.cares(a, n), m.cares(a, n));
                case 2 -> same("next", x.next(), m.next());
                case 3, 4 -> {
                    int days = wrongly(1, 20);
                    same("spare " + a + " " + days + " " + w, x.spare(a, days, w), m.spare(a, days, w));
                }
                case 5 -> same("easing", x.easing(a), m.easing(a));
                case 6 -> same("hush", x.hush(w), m.hush(w));
                case 7 -> {
                    int i = wrongly(0, 12);
                    same("knows", x.knows(i, w), m.knows(i, w));
                }
                case 8 -> same("wed", x.wed(), m.wed());
                case 9 -> same("nights", x.nights(a, n), m.nights(a, n));
                case 10 -> same("returns", x.returns(a), m.returns(a));
                case 11 -> same("rank", x.rank(), m.rank());
                case 12 -> same("words", x.words(), m.words());
                case 13 -> same("peace", x.peace(), m.peace());
                case 14 -> same("burden", x.burden(n), m.burden(n));
                case 15 -> same("calm", x.calm(), m.calm());
                case 16 -> {
                    int ease = random.nextBoolean() ? wrongly(0, 999) : wrongly(0, 60);
                    same("law", x.law(ease), m.law(ease));
                }
                case 17 -> {
                    int of = random.nextInt(4) == 0 ? -1 : a;
                    same("odds " + of, x.odds(of, w), m.odds(of, w));
                }
                case 18 -> same("duel " + a + " " + b, x.duel(a, b), m.duel(a, b));
                case 19 -> {
                    int steps = wrongly(1, 6);
                    same("path", x.path(steps), m.path(steps));
                }
                case 20 -> same("silence", x.silence(a, w), m.silence(a, w));
                default -> {
                    same("alone", x.alone(), m.alone());
                    same("heaviest", x.heaviest(), m.heaviest());
                }
            }
            compareLying();
        }

        void compareAll() {
            for (int p = 0; p < m.persons(); p++) {
                same("easing " + p, x.easing(p), m.easing(p));
                same("silence " + p, x.silence(p, 1), m.silence(p, 1));
                same("odds " + p, x.odds(p, 0), m.odds(p, 0));
                same("odds " + p, x.odds(p, 1), m.odds(p, 1));
            }
            same("hush", x.hush(1), m.hush(1));
            same("fits", x.fits(m.time), m.fits(m.time));
        }
    }
}
