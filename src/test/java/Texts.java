import java.util.Random;

/** Random texts of families, whole ones and damaged ones. */
final class Texts {
    private static final String[] NAMES = {"ann", "bob", "cat", "dan", "eve", "fay", "abcdefgh", "line", "e"};

    private Texts() {
    }

    static String whole(Random r) {
        int persons = r.nextInt(12) == 0 ? r.nextInt(3) : 2 + r.nextInt(5);
        StringBuilder t = new StringBuilder();
        int news = 0;
        int most = r.nextInt(3) == 0 ? 99 : 30;
        for (int p = 0; p < persons; p++) {
            t.append("person ").append(NAMES[p]).append(" of ").append(r.nextInt(2));
            t.append(" cares ").append(r.nextInt(most + 1));
            if (news < 4 && r.nextInt(3) == 0) {
                news++;
                int chance = r.nextInt(6) == 0 ? r.nextInt(2) * 100 : r.nextInt(101);
                t.append(" news ").append(chance).append(" of ").append(1 + r.nextInt(20));
            }
            t.append(r.nextInt(5) == 0 ? "\n ; " : ";");
        }
        knows(r, t, persons);
        if (r.nextInt(3) > 0) {
            t.append("worry ").append(r.nextInt(3) == 0 ? worry(r) : expression(r, new int[] {18}, 3)).append(';');
        }
        if (r.nextInt(3) > 0) {
            t.append("grows ").append(r.nextInt(3) == 0 ? growth(r) : expression(r, new int[] {18}, 3)).append(';');
        }
        if (r.nextInt(3) > 0) {
            t.append("ease ").append(r.nextInt(4) == 0 ? r.nextInt(1000) : r.nextInt(50)).append(';');
        }
        if (r.nextInt(2) > 0) {
            t.append("draw ").append(r.nextInt(1000)).append(';');
        }
        return t.toString();
    }

    private static void knows(Random r, StringBuilder t, int persons) {
        boolean[][] told = new boolean[6][6];
        int count = persons < 2 ? 0 : r.nextInt(13);
        for (int i = 0; i < count; i++) {
            int a = r.nextInt(persons);
            int b = r.nextInt(persons);
            if (a != b && !told[a][b]) {
                told[a][b] = true;
                t.append("knows ").append(NAMES[a]).append(' ').append(NAMES[b]).append(';');
            }
        }
    }

    private static String worry(Random r) {
        String[] all = {"care+has*3", "care+known/3-day", "known*(1-house)+care*house", "care*10+known", "99-care",
            "care%7*100", "care*known", "known-care", "not has and care+known>20", "care+known", "500+care-99",
            "900+care+known", "care*(known=0)", "care*(known<5)"};
        return all[r.nextInt(all.length)];
    }

    private static String growth(Random r) {
        String[] all = {"3-has*4", "1", "0-1", "has*2-1", "(day%3=0)*5-2", "known/10-care/10", "house*2-has*3",
            "9999*9999*9999", "(care<50)-(care>50)"};
        return all[r.nextInt(all.length)];
    }

    static String expression(Random r, int[] units, int depth) {
        StringBuilder t = new StringBuilder(atom(r, units, depth));
        String[] joints = {"+", "-", "*", "/", "%", " or ", " and "};
        int more = r.nextInt(4);
        for (int i = 0; i < more && units[0] > 0; i++) {
            t.append(joints[r.nextInt(joints.length)]);
            if (t.charAt(t.length() - 1) == ' ' && r.nextInt(3) == 0) {
                t.append("not ");
            }
            t.append(atom(r, units, depth));
        }
        if (units[0] > 0 && r.nextInt(4) == 0) {
            return "(" + t + ")" + "<>=".charAt(r.nextInt(3)) + atom(r, units, depth);
        }
        return t.toString();
    }

    private static String atom(Random r, int[] units, int depth) {
        units[0]--;
        String[] givens = {"care", "known", "has", "house", "day"};
        int way = r.nextInt(depth > 0 ? 8 : 6);
        if (way >= 6 && units[0] > 0) {
            return (r.nextInt(5) == 0 ? "(not " : "(") + expression(r, units, depth - 1) + ")";
        }
        if (way < 4) {
            return givens[r.nextInt(givens.length)];
        }
        return Integer.toString(r.nextInt(r.nextInt(4) == 0 ? 10000 : 12));
    }

    /** A text that is most likely wrong somewhere. */
    static String damaged(Random r) {
        StringBuilder t = new StringBuilder(r.nextInt(8) == 0 ? crowded(r) : whole(r));
        int times = 1 + r.nextInt(3);
        for (int i = 0; i < times; i++) {
            damage(r, t);
        }
        if (t.length() > 1600) {
            t.setLength(1600);
        }
        return t.toString();
    }

    private static void damage(Random r, StringBuilder t) {
        String[] pieces = {"person", "of", "cares", "news", "knows", "worry", "grows", "ease", "draw", "or", "and",
            "not", "care", "known", "has", "house", "day", ";", "(", ")", "<", ">", "=", "+", "-", "*", "/", "%",
            "0", "1", "21", "101", "1000", "9999", "10000", "ann", "bob", "zed", "abcdefghi", "7a", "$", "\t", "A",
            "\r", "\u00e9", "\u0000", "_", "not not not not not not not ", "((((((", "1+1+1+1+1+1+1+1+1+1+"};
        int at = t.length() == 0 ? 0 : r.nextInt(t.length());
        switch (r.nextInt(5)) {
            case 0 -> t.insert(at, pieces[r.nextInt(pieces.length)]);
            case 1 -> t.insert(at, " " + pieces[r.nextInt(pieces.length)] + " ");
            case 2 -> t.delete(at, Math.min(t.length(), at + 1 + r.nextInt(6)));
            case 3 -> t.setLength(at);
            default -> {
                int semicolon = t.indexOf(";", at);
                t.insert(semicolon < 0 ? t.length() : semicolon + 1, line(r));
            }
        }
    }

    private static String line(Random r) {
        String[] lines = {"person ann of 0 cares 1;", "person gus of 1 cares 99 news 100 of 20;", "knows ann bob;",
            "knows bob ann;", "knows ann ann;", "knows zed ann;", "knows ann zed;", "knows zed zed;", "worry 1;",
            "grows 0;", "ease 999;", "ease 1000;", "draw 999;", "draw 1000;", "person hal of 2 cares 1;",
            "person ida of 0 cares 100;", "person of of 0 cares 1;", "knows ann of;", ";", "person kim of 0 cares 5;"};
        return lines[r.nextInt(lines.length)];
    }

    /** Near the limits: six persons, twelve knows, thirty units, seven within one another. */
    private static String crowded(Random r) {
        StringBuilder t = new StringBuilder();
        for (int p = 0; p < 6; p++) {
            t.append("person ").append(NAMES[p]).append(" of ").append(p % 2).append(" cares ").append(p * 9);
            t.append(p < 4 ? " news 50 of 5;" : ";");
        }
        int count = 0;
        for (int a = 0; a < 6; a++) {
            for (int b = 0; b < 6; b++) {
                if (a != b && count < 11 + r.nextInt(2)) {
                    count++;
                    t.append("knows ").append(NAMES[a]).append(' ').append(NAMES[b]).append(';');
                }
            }
        }
        t.append("worry ");
        int depth = 5 + r.nextInt(3);
        for (int i = 0; i < depth; i++) {
            t.append(r.nextBoolean() ? "(" : "not (");
        }
        int units = 20 + r.nextInt(6);
        for (int i = 0; i < units; i++) {
            t.append(i == 0 ? "" : "+").append("care");
        }
        for (int i = 0; i < depth; i++) {
            t.append(")");
        }
        return t.append(";grows 1;").toString();
    }
}
