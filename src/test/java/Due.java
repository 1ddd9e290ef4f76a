/** What the tests share: telling a family, comparing an answer with the one that is due. */
final class Due {
    private static int wrong = 0;
    private static int asked = 0;
    private static String part = "";

    private Due() {
    }

    static void part(String name) {
        part = name;
    }

    static void due(String call, long got, long want) {
        asked++;
        if (got != want) {
            wrong++;
            System.out.println(part + ": " + call + " answered " + got + ", due is " + want);
        }
    }

    static void due(String call, boolean got, boolean want) {
        due(call, got ? 1 : 0, want ? 1 : 0);
    }

    /** Puts a text on the tape; it must be empty ahead of this. */
    static void put(GreyHair x, String text) {
        for (int i = 0; i < text.length(); i += 20) {
            x.feed(four(text, i), four(text, i + 4), four(text, i + 8), four(text, i + 12), four(text, i + 16));
        }
        x.end(text.length());
    }

    private static int four(String text, int at) {
        int all = 0;
        for (int i = at; i < at + 4; i++) {
            all = (all << 8) | (i < text.length() ? text.charAt(i) & 255 : 0);
        }
        return all;
    }

    static int tell(GreyHair x, String text) {
        put(x, text);
        return x.family();
    }

    static GreyHair told(String text) {
        GreyHair x = new GreyHair();
        if (tell(x, text) < 0) {
            wrong++;
            System.out.println(part + ": fault " + x.fault(0) + " at " + x.fault(1) + " of " + text);
        }
        return x;
    }

    /** What lies there must be just this. */
    static void lie(GreyHair x, int... wanted) {
        due("about(12)", x.about(12), wanted.length);
        for (int i = 0; i < wanted.length; i++) {
            due("lies(" + i + ")", x.lies(i), wanted[i]);
        }
        due("lies(-1)", x.lies(-1), -2);
        due("lies(" + wanted.length + ")", x.lies(wanted.length), -2);
    }

    /** Persons a, b, c .. of house 0 with these cares, and no more lines. */
    static String cares(int... cares) {
        StringBuilder text = new StringBuilder();
        for (int i = 0; i < cares.length; i++) {
            text.append("person ").append((char) ('a' + i)).append(" of 0 cares ").append(cares[i]).append(';');
        }
        return text.toString();
    }

    /** Lines of knows: "ab" is that a knows of b's cares. */
    static String knows(String... twos) {
        StringBuilder text = new StringBuilder();
        for (String two : twos) {
            text.append("knows ").append(two.charAt(0)).append(' ').append(two.charAt(1)).append(';');
        }
        return text.toString();
    }

    /** All that an object tells without being changed by it, but for its boxes. */
    static String look(GreyHair x) {
        StringBuilder all = new StringBuilder();
        for (int what = 0; what <= 12; what++) {
            all.append(x.about(what)).append(' ');
        }
        all.append("| ").append(x.hair()).append(' ').append(x.fault(0)).append(' ').append(x.fault(1)).append(" |");
        for (int person = 0; person < x.about(0); person++) {
            for (int what = 0; what <= 6; what++) {
                all.append(' ').append(x.person(person, what));
            }
            all.append(" |");
        }
        for (int i = 0; i < x.about(12); i++) {
            all.append(' ').append(x.lies(i));
        }
        return all.append(" | ").append(x.fits(x.about(9))).toString();
    }

    static void same(String call, String got, String want) {
        asked++;
        if (!got.equals(want)) {
            wrong++;
            System.out.println(part + ": " + call + " is " + got + ", due is " + want);
        }
    }

    /** A call that must answer so and do nothing: the look of the object stays. */
    static void refused(GreyHair x, String call, String before, long got, long want) {
        due(call, got, want);
        same("all behind " + call, look(x), before);
    }

    static void finish() {
        System.out.println(wrong == 0 ? asked + " answers are as due" : wrong + " answers are not as due");
        System.exit(wrong == 0 ? 0 : 1);
    }
}
