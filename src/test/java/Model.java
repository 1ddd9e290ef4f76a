import java.util.ArrayList;
import java.util.Arrays;
import java.util.List;

/**
 * The document once more, written as plainly and as wastefully as can be, by other means than the
 * class (a tree for a formula, a new state for each step, every set tried), to be compared with it.
 */
final class Model {
    static final class Fault extends RuntimeException {
        private static final long serialVersionUID = 1L;
        final int code;
        final int place;

        Fault(int code, int place) {
            super(null, null, false, false);
            this.code = code;
            this.place = place;
        }
    }

    interface Expression {
        int of(int care, int known, int has, int house, int day);
    }

    record Token(String text, int place) {
    }

    record Person(String name, int house, int care, int chance, int amount) {
    }

    static final List<String> WORDS = List.of("person", "of", "cares", "news", "knows", "worry", "grows", "ease",
            "draw", "or", "and", "not", "care", "known", "has", "house", "day");

    /** A text that has been read. */
    static final class Text {
        final List<Person> persons = new ArrayList<>();
        final boolean[][] knows = new boolean[6][6];
        Expression worry;
        Expression grows;
        int ease = 1;
        int draw = 0;
        int units = 0;
    }

    static final class Parser {
        final List<Token> tokens = new ArrayList<>();
        final List<String> onceTold = new ArrayList<>();
        final Text text = new Text();
        Fault lexical;
        int at = 0;
        int unitsHere;
        int knows = 0;
        int news = 0;

        Parser(byte[] bytes) {
            int i = 0;
            while (i < bytes.length) {
                char c = (char) (bytes[i] & 255);
                if (c == ' ' || c == '\n') {
                    i++;
                    continue;
                }
                int j = i + 1;
                boolean fine = true;
                if (c >= 'a' && c <= 'z') {
                    while (j < bytes.length && bytes[j] >= 'a' && bytes[j] <= 'z') {
                        j++;
                    }
                    fine = j - i <= 8;
                } else if (c >= '0' && c <= '9') {
                    while (j < bytes.length && bytes[j] >= '0' && bytes[j] <= '9') {
                        j++;
                    }
                    fine = j - i <= 4 && !(j < bytes.length && bytes[j] >= 'a' && bytes[j] <= 'z');
                } else {
                    fine = ";()<>=+-*/%".indexOf(c) >= 0;
                }
                if (!fine) {
                    lexical = new Fault(1, i);
                    break;
                }
                StringBuilder word = new StringBuilder();
                for (int k = i; k < j; k++) {
                    word.append((char) bytes[k]);
                }
                tokens.add(new Token(word.toString(), i));
                i = j;
            }
            tokens.add(new Token("", lexical == null ? bytes.length : lexical.place));
        }

        Text read() {
            Fault other = null;
            try {
                while (!now().isEmpty()) {
                    line();
                }
            } catch (Fault f) {
                other = f;
            }
            if (lexical != null && (other == null || lexical.place <= other.place)) {
                throw lexical;
            }
            if (other != null) {
                throw other;
            }
            return text;
        }

        String now() {
            return tokens.get(at).text();
        }

        Fault faultHere(int code) {
            return new Fault(code, tokens.get(at).place());
        }

        void need(String what) {
            if (!now().equals(what)) {
                throw faultHere(2);
            }
            at++;
        }

        boolean isNumber() {
            return !now().isEmpty() && Character.isDigit(now().charAt(0));
        }

        int number(int least, int most) {
            if (!isNumber()) {
                throw faultHere(2);
            }
            int value = Integer.parseInt(now());
            if (value < least || value > most) {
                throw faultHere(4);
            }
            at++;
            return value;
        }

        String name() {
            if (now().isEmpty() || !Character.isLetter(now().charAt(0)) || WORDS.contains(now())) {
                throw faultHere(2);
            }
            return now();
        }

        int find(String name) {
            for (int i = 0; i < text.persons.size(); i++) {
                if (text.persons.get(i).name().equals(name)) {
                    return i;
                }
            }
            return -1;
        }

        void once() {
            if (onceTold.contains(now())) {
                throw faultHere(2);
            }
            onceTold.add(now());
        }

        void line() {
            switch (now()) {
                case "person" -> personLine();
                case "knows" -> knowsLine();
                case "worry" -> {
                    once();
                    at++;
                    unitsHere = 0;
                    text.worry = either(0);
                    need(";");
                }
                case "grows" -> {
                    once();
                    at++;
                    unitsHere = 0;
                    text.grows = either(0);
                    need(";");
                }
                case "ease" -> {
                    once();
                    at++;
                    text.ease = number(0, 999);
                    need(";");
                }
                case "draw" -> {
                    once();
                    at++;
                    text.draw = number(0, 999);
                    need(";");
                }
                default -> throw faultHere(2);
            }
        }

        void personLine() {
            if (text.persons.size() == 6) {
                throw faultHere(2);
            }
            at++;
            String name = name();
            if (find(name) >= 0) {
                throw faultHere(3);
            }
            at++;
            need("of");
            int house = number(0, 1);
            need("cares");
            int care = number(0, 99);
            int chance = -1;
            int amount = 0;
            if (now().equals("news")) {
                if (news == 4) {
                    throw faultHere(2);
                }
                news++;
                at++;
                chance = number(0, 100);
                need("of");
                amount = number(1, 20);
            }
            need(";");
            text.persons.add(new Person(name, house, care, chance, amount));
        }

        void knowsLine() {
            if (knows == 12) {
                throw faultHere(2);
            }
            knows++;
            at++;
            int first = find(name());
            if (first < 0) {
                throw faultHere(5);
            }
            at++;
            int second = find(name());
            if (second < 0) {
                throw faultHere(5);
            }
            if (first == second || text.knows[first][second]) {
                throw faultHere(3);
            }
            text.knows[first][second] = true;
            at++;
            need(";");
        }

        Expression either(int depth) {
            Expression all = both(depth);
            while (now().equals("or")) {
                at++;
                Expression l = all;
                Expression r = both(depth);
                all = (c, k, h, o, d) -> l.of(c, k, h, o, d) != 0 || r.of(c, k, h, o, d) != 0 ? 1 : 0;
            }
            return all;
        }

        Expression both(int depth) {
            Expression all = one(depth);
            while (now().equals("and")) {
                at++;
                Expression l = all;
                Expression r = one(depth);
                all = (c, k, h, o, d) -> l.of(c, k, h, o, d) != 0 && r.of(c, k, h, o, d) != 0 ? 1 : 0;
            }
            return all;
        }

        Expression one(int depth) {
            if (now().equals("not")) {
                if (depth > 6) {
                    throw faultHere(2);
                }
                at++;
                Expression of = one(depth + 1);
                return (c, k, h, o, d) -> of.of(c, k, h, o, d) == 0 ? 1 : 0;
            }
            Expression l = sum(depth);
            String sign = now();
            if (!sign.equals("<") && !sign.equals(">") && !sign.equals("=")) {
                return l;
            }
            at++;
            Expression r = sum(depth);
            return (c, k, h, o, d) -> {
                int way = Integer.compare(l.of(c, k, h, o, d), r.of(c, k, h, o, d));
                return (way < 0 ? "<" : way > 0 ? ">" : "=").equals(sign) ? 1 : 0;
            };
        }

        Expression sum(int depth) {
            Expression all = term(depth);
            while (now().equals("+") || now().equals("-")) {
                int way = now().equals("+") ? 1 : -1;
                at++;
                Expression l = all;
                Expression r = term(depth);
                all = (c, k, h, o, d) -> (int) ((long) l.of(c, k, h, o, d) + (long) way * r.of(c, k, h, o, d));
            }
            return all;
        }

        Expression term(int depth) {
            Expression all = unit(depth);
            while (now().equals("*") || now().equals("/") || now().equals("%")) {
                String sign = now();
                at++;
                Expression l = all;
                Expression r = unit(depth);
                all = (c, k, h, o, d) -> {
                    long a = l.of(c, k, h, o, d);
                    long b = r.of(c, k, h, o, d);
                    if (sign.equals("*")) {
                        return (int) (a * b);
                    }
                    return b == 0 ? 0 : (int) (sign.equals("/") ? a / b : a % b);
                };
            }
            return all;
        }

        Expression unit(int depth) {
            if (unitsHere == 30 || text.units == 60) {
                throw faultHere(2);
            }
            unitsHere++;
            text.units++;
            if (isNumber()) {
                int value = number(0, 9999);
                return (c, k, h, o, d) -> value;
            }
            switch (now()) {
                case "care":
                    at++;
                    return (c, k, h, o, d) -> c;
                case "known":
                    at++;
                    return (c, k, h, o, d) -> k;
                case "has":
                    at++;
                    return (c, k, h, o, d) -> h;
                case "house":
                    at++;
                    return (c, k, h, o, d) -> o;
                case "day":
                    at++;
                    return (c, k, h, o, d) -> d;
                case "(":
                    if (depth > 6) {
                        throw faultHere(2);
                    }
                    at++;
                    Expression inside = either(depth + 1);
                    need(")");
                    return inside;
                default:
                    throw faultHere(2);
            }
        }
    }

    /** A state is never changed once it is one's own: each change is made on a copy. */
    static final class State implements Cloneable {
        int[] cares = new int[6];
        boolean[][] knows = new boolean[6][6];
        int hair = -1;
        boolean dyed;
        int day;
        int seed;

        State copy() {
            State s = new State();
            s.cares = cares.clone();
            for (int i = 0; i < 6; i++) {
                s.knows[i] = knows[i].clone();
            }
            s.hair = hair;
            s.dyed = dyed;
            s.day = day;
            s.seed = seed;
            return s;
        }
    }

    record Sight(int day, int person, boolean is, int told, int[] untold) {
    }

    byte[] tape = new byte[0];
    Text text = new Text();
    State state = new State();
    List<State> past = new ArrayList<>();
    List<State> future = new ArrayList<>();
    List<Integer> lying = new ArrayList<>();
    List<Sight> sights = new ArrayList<>();
    State[] boxes = new State[3];
    int faultCode = 0;
    int faultPlace = -1;
    int time = 0;

    int persons() {
        return text.persons.size();
    }

    boolean is(int person) {
        return person >= 0 && person < persons();
    }

    static int clamp(int least, int value, int most) {
        return value < least ? least : value > most ? most : value;
    }

    int known(State s, int p) {
        int sum = 0;
        for (int q = 0; q < persons(); q++) {
            sum += s.knows[p][q] ? s.cares[q] : 0;
        }
        return sum;
    }

    int worry(State s, int p) {
        int raw = text.worry == null ? s.cares[p] + known(s, p) / 2
                : text.worry.of(s.cares[p], known(s, p), s.hair == p ? 1 : 0, text.persons.get(p).house(), s.day);
        return clamp(0, raw, 999);
    }

    int target(State s, int barred, int ease) {
        int best = -1;
        for (int p = 0; p < persons(); p++) {
            if (p != barred && (best < 0 || worry(s, p) > worry(s, best))) {
                best = p;
            }
        }
        return best >= 0 && worry(s, best) >= ease ? best : -1;
    }

    State start(int lastCare) {
        State s = new State();
        for (int p = 0; p < persons(); p++) {
            s.cares[p] = text.persons.get(p).care();
            s.knows[p] = text.knows[p].clone();
        }
        if (lastCare >= 0) {
            s.cares[persons() - 1] = lastCare;
        }
        s.seed = text.draw;
        s.hair = target(s, -1, text.ease);
        return s;
    }

    /** news: null for none, an empty row for drawn ones, else to whom they come. */
    State step(State old, boolean[] news, int ease) {
        State s = old.copy();
        for (int p = 0; p < persons(); p++) {
            int more = text.grows == null ? 0
                    : text.grows.of(old.cares[p], known(old, p), old.hair == p ? 1 : 0, text.persons.get(p).house(),
                            old.day);
            s.cares[p] = clamp(0, old.cares[p] + more, 99);
        }
        for (int p = 0; p < persons(); p++) {
            Person who = text.persons.get(p);
            if (who.chance() < 0 || news == null) {
                continue;
            }
            boolean comes;
            if (news.length == 0) {
                s.seed = (s.seed * 137 + 71) % 1000;
                comes = s.seed % 100 < who.chance();
            } else {
                comes = news[p];
            }
            if (comes) {
                s.cares[p] = Math.min(99, s.cares[p] + who.amount());
            }
        }
        s.day++;
        if (!(s.dyed && s.hair >= 0)) {
            s.hair = target(s, -1, ease);
        }
        s.dyed = false;
        return s;
    }

    State plain(State s) {
        return step(s, null, text.ease);
    }

    State ahead(State s, int n) {
        for (int i = 0; i < n; i++) {
            s = plain(s);
        }
        return s;
    }

    int feed(int a, int b, int c, int d, int e) {
        if (tape.length + 20 > 1600) {
            return -1;
        }
        int at = tape.length;
        tape = Arrays.copyOf(tape, at + 20);
        for (int x : new int[] {a, b, c, d, e}) {
            tape[at++] = (byte) (x >>> 24);
            tape[at++] = (byte) (x >>> 16);
            tape[at++] = (byte) (x >>> 8);
            tape[at++] = (byte) x;
        }
        return at;
    }

    int end(int n) {
        if (n < 0 || n > tape.length) {
            return -1;
        }
        tape = Arrays.copyOf(tape, n);
        return n;
    }

    int family() {
        byte[] bytes = tape;
        tape = new byte[0];
        try {
            text = new Parser(bytes).read();
        } catch (Fault f) {
            faultCode = f.code;
            faultPlace = f.place;
            return -1;
        }
        faultCode = 0;
        faultPlace = -1;
        state = start(-1);
        past.clear();
        future.clear();
        lying.clear();
        sights.clear();
        boxes = new State[3];
        return persons();
    }

    int fault(int what) {
        return what == 0 ? faultCode : what == 1 ? faultPlace : -1;
    }

    int person(int person, int what) {
        if (!is(person)) {
            return -1;
        }
        int in = 0;
        int out = 0;
        for (int q = 0; q < persons(); q++) {
            out += state.knows[person][q] ? 1 << q : 0;
            in += state.knows[q][person] ? 1 << q : 0;
        }
        Person p = text.persons.get(person);
        return switch (what) {
            case 0 -> p.house();
            case 1 -> state.cares[person];
            case 2 -> worry(state, person);
            case 3 -> out;
            case 4 -> in;
            case 5 -> Math.max(0, p.chance());
            case 6 -> p.amount();
            default -> -1;
        };
    }

    int hair() {
        return state.hair;
    }

    void act(State then) {
        past.add(state);
        if (past.size() > 40) {
            past.remove(0);
        }
        future.clear();
        state = then;
    }

    int day() {
        if (state.day >= 999) {
            return -2;
        }
        act(step(state, new boolean[0], text.ease));
        return state.hair;
    }

    int ease(int person, int care) {
        if (!is(person) || care < 1 || care > 9) {
            return -1;
        }
        State s = state.copy();
        s.cares[person] = Math.max(0, s.cares[person] - care);
        act(s);
        return s.cares[person];
    }

    int take(int person, int care) {
        if (!is(person) || care < 1 || care > 9) {
            return -1;
        }
        State s = state.copy();
        s.cares[person] = Math.min(99, s.cares[person] + care);
        act(s);
        return s.cares[person];
    }

    List<int[]> knowsList(State s) {
        List<int[]> list = new ArrayList<>();
        for (int p = 0; p < persons(); p++) {
            for (int q = 0; q < persons(); q++) {
                if (s.knows[p][q]) {
                    list.add(new int[] {p, q});
                }
            }
        }
        return list;
    }

    int tell(int person, int other) {
        if (!is(person) || !is(other) || person == other || state.knows[person][other]
                || knowsList(state).size() == 12) {
            return -1;
        }
        State s = state.copy();
        s.knows[person][other] = true;
        act(s);
        return worry(s, person);
    }

    int forget(int person, int other) {
        if (!is(person) || !is(other) || !state.knows[person][other]) {
            return -1;
        }
        State s = state.copy();
        s.knows[person][other] = false;
        act(s);
        return worry(s, person);
    }

    int pluck() {
        if (state.hair < 0) {
            return -2;
        }
        State s = state.copy();
        s.hair = target(s, s.hair, text.ease);
        s.dyed = false;
        act(s);
        return s.hair;
    }

    int dye() {
        if (state.hair < 0 || state.dyed) {
            return -1;
        }
        State s = state.copy();
        s.dyed = true;
        act(s);
        return s.hair;
    }

    boolean undo() {
        if (past.isEmpty()) {
            return false;
        }
        future.add(state);
        state = past.remove(past.size() - 1);
        return true;
    }

    boolean redo() {
        if (future.isEmpty()) {
            return false;
        }
        past.add(state);
        state = future.remove(future.size() - 1);
        return true;
    }

    int will(int n) {
        if (n < 0 || n > 60) {
            return -2;
        }
        State s = state;
        for (int i = 0; i < n; i++) {
            s = step(s, new boolean[0], text.ease);
        }
        return s.hair;
    }

    int cares(int person, int n) {
        return !is(person) || n < 0 || n > 60 ? -1 : ahead(state, n).cares[person];
    }

    int next() {
        return plain(state).hair;
    }

    int spare(int person, int n, int what) {
        if (!is(person) || n < 1 || n > 20 || what < 0 || what > 1) {
            return -1;
        }
        for (int much = 0; much <= 99; much++) {
            for (int other = 0; other < persons(); other++) {
                if (other == person) {
                    continue;
                }
                State s = state.copy();
                s.cares[other] = Math.min(99, s.cares[other] + much);
                boolean spared = true;
                for (int i = 0; i < n && spared; i++) {
                    s = plain(s);
                    spared = s.hair != person;
                }
                if (spared) {
                    return what == 0 ? much : other;
                }
            }
        }
        return -1;
    }

    int easing(int person) {
        if (!is(person)) {
            return -1;
        }
        for (int much = 0; much <= 99; much++) {
            State s = state.copy();
            s.cares[person] = Math.max(0, s.cares[person] - much);
            if (plain(s).hair != person) {
                return much;
            }
        }
        return -1;
    }

    int hush(int what) {
        List<int[]> list = knowsList(state);
        int best = -1;
        for (int set = 0; set < 1 << list.size(); set++) {
            if (best >= 0 && Integer.bitCount(set) >= Integer.bitCount(best)) {
                continue;
            }
            State s = state.copy();
            for (int i = 0; i < list.size(); i++) {
                if ((set >> i) % 2 == 1) {
                    s.knows[list.get(i)[0]][list.get(i)[1]] = false;
                }
            }
            if (plain(s).hair < 0) {
                best = set;
            }
        }
        return best < 0 || what < 0 || what > 1 ? -1 : what == 0 ? Integer.bitCount(best) : best;
    }

    int knows(int i, int what) {
        List<int[]> list = knowsList(state);
        return i < 0 || i >= list.size() || what < 0 || what > 1 ? -1 : list.get(i)[what];
    }

    int bestMost;
    int bestPairs;
    int[] bestWedding;

    void wedFrom(int p, int[] to, int pairs, int most) {
        if (p == persons()) {
            if (pairs > bestPairs || (pairs == bestPairs && most < bestMost)) {
                bestPairs = pairs;
                bestMost = most;
                bestWedding = to.clone();
            }
            return;
        }
        if (text.persons.get(p).house() == 0) {
            for (int q = 0; q < persons(); q++) {
                if (text.persons.get(q).house() == 1 && to[q] < 0) {
                    to[p] = q;
                    to[q] = p;
                    wedFrom(p + 1, to, pairs + 1, Math.max(most, state.cares[p] + state.cares[q]));
                    to[p] = -1;
                    to[q] = -1;
                }
            }
        }
        wedFrom(p + 1, to, pairs, most);
    }

    int wed() {
        lying.clear();
        bestPairs = 0;
        bestMost = 0;
        int[] to = new int[6];
        Arrays.fill(to, -1);
        wedFrom(0, to, 0, 0);
        if (bestPairs == 0) {
            return -1;
        }
        for (int p = 0; p < persons(); p++) {
            lying.add(bestWedding[p]);
        }
        return bestMost;
    }

    int nights(int person, int n) {
        if (!is(person) || n < 0 || n > 60) {
            return -1;
        }
        int count = 0;
        for (int i = 1; i <= n; i++) {
            count += ahead(state, i).hair == person ? 1 : 0;
        }
        return count;
    }

    int returns(int person) {
        State s = state;
        for (int i = 1; i <= 60 && is(person); i++) {
            s = plain(s);
            if (s.hair == person) {
                return i;
            }
        }
        return -1;
    }

    int rank() {
        lying.clear();
        for (int p = 0; p < persons(); p++) {
            lying.add(p);
        }
        lying.sort((a, b) -> worry(state, a) != worry(state, b) ? worry(state, b) - worry(state, a) : a - b);
        return lying.size();
    }

    int words() {
        int count = 0;
        for (int p = 0; p < persons(); p++) {
            for (int q = 0; q < persons(); q++) {
                if (p != q && !state.knows[p][q]) {
                    State s = state.copy();
                    s.knows[p][q] = true;
                    count += plain(s).hair == p && plain(state).hair != p ? 1 : 0;
                }
            }
        }
        return count;
    }

    int peace() {
        State s = state;
        for (int i = 0; i <= 60; i++) {
            if (s.hair < 0) {
                return i;
            }
            s = plain(s);
        }
        return -1;
    }

    int burden(int n) {
        return n < 0 || n > 60 ? -1 : Arrays.stream(ahead(state, n).cares).sum();
    }

    int calm() {
        for (int ease = 0; ease <= 999; ease++) {
            if (step(state, null, ease).hair < 0) {
                return ease;
            }
        }
        return -1;
    }

    int law(int n) {
        int count = 0;
        for (int p = 0; p < persons(); p++) {
            count += worry(state, p) >= n ? 1 : 0;
        }
        return n < 0 || n > 999 ? -1 : count;
    }

    int odds(int person, int part) {
        if ((person != -1 && !is(person)) || part < 0 || part > 1) {
            return -1;
        }
        long upper = 0;
        long all = 0;
        for (int set = 0; set < 1 << persons(); set++) {
            long weight = 1;
            boolean[] comes = new boolean[6];
            for (int p = 0; p < persons(); p++) {
                comes[p] = (set >> p) % 2 == 1;
                int chance = Math.max(0, text.persons.get(p).chance());
                weight *= comes[p] ? chance : 100 - chance;
            }
            all += weight;
            if (weight > 0 && step(state, comes, text.ease).hair == person) {
                upper += weight;
            }
        }
        long common = java.math.BigInteger.valueOf(upper).gcd(java.math.BigInteger.valueOf(all)).longValue();
        return (int) ((part == 0 ? upper : all) / common);
    }

    boolean better(boolean has, int takes, boolean hadElse, int tookElse) {
        return has != hadElse ? has : takes < tookElse;
    }

    int duel(int person, int other) {
        lying.clear();
        if (!is(person) || !is(other) || person == other) {
            return -1;
        }
        int[][] hairs = new int[10][10];
        for (int i = 0; i < 10; i++) {
            for (int j = 0; j < 10; j++) {
                State s = state.copy();
                s.cares[person] = Math.min(99, s.cares[person] + i);
                s.cares[other] = Math.min(99, s.cares[other] + j);
                hairs[i][j] = plain(s).hair;
            }
        }
        int rests = 0;
        for (int i = 0; i < 10; i++) {
            for (int j = 0; j < 10; j++) {
                boolean rest = true;
                for (int k = 0; k < 10; k++) {
                    rest &= !better(hairs[k][j] == person, k, hairs[i][j] == person, i);
                    rest &= !better(hairs[i][k] == other, k, hairs[i][j] == other, j);
                }
                if (rest && rests++ == 0) {
                    lying.add(i);
                    lying.add(j);
                }
            }
        }
        return rests;
    }

    int path(int n) {
        lying.clear();
        if (n < 1 || n > 6) {
            return -1;
        }
        int count = 0;
        for (int i = 1; i <= n; i++) {
            int hair = ahead(state, i).hair;
            lying.add(hair);
            count += hair < 0 ? 1 : 0;
        }
        return count;
    }

    int silence(int person, int what) {
        if (!is(person) || what < 0 || what > 1) {
            return -1;
        }
        for (int size = 0; size <= 6; size++) {
            for (int set = 0; set < 64; set++) {
                State s = state.copy();
                boolean can = Integer.bitCount(set) == size;
                for (int q = 0; q < 6; q++) {
                    if ((set >> q) % 2 == 1) {
                        can &= s.knows[person][q];
                        s.knows[person][q] = false;
                    }
                }
                if (can && plain(s).hair != person) {
                    return what == 0 ? size : set;
                }
            }
        }
        return -1;
    }

    int alone() {
        int set = 0;
        for (int p = 0; p < persons(); p++) {
            boolean is = true;
            for (int q = 0; q < persons(); q++) {
                is &= !state.knows[p][q] && !state.knows[q][p];
            }
            set += is ? 1 << p : 0;
        }
        return set;
    }

    int heaviest() {
        int most = Arrays.stream(state.cares).limit(persons()).max().orElse(-1);
        for (int p = 0; p < persons(); p++) {
            if (state.cares[p] == most) {
                return p;
            }
        }
        return -1;
    }

    int lies(int i) {
        return i < 0 || i >= lying.size() ? -2 : lying.get(i);
    }

    int seen(int day, int person, boolean is) {
        if (persons() == 0 || day < 0 || day > 9 || (person != -1 && !is(person)) || sights.size() == 30) {
            return -1;
        }
        sights.add(new Sight(day, person, is, time, new int[] {Integer.MAX_VALUE}));
        return sights.size() - 1;
    }

    boolean untell(int seen) {
        if (seen < 0 || seen >= sights.size() || sights.get(seen).untold()[0] != Integer.MAX_VALUE) {
            return false;
        }
        sights.get(seen).untold()[0] = time;
        return true;
    }

    int later(int by) {
        if (by < 0 || by > 1000 || time + by > 100000) {
            return -1;
        }
        time += by;
        return time;
    }

    List<Integer> fitting(int k) {
        List<Integer> list = new ArrayList<>();
        for (int care = 0; care <= 99 && persons() > 0; care++) {
            boolean fits = true;
            for (Sight s : sights) {
                if (s.told() <= k && !(s.untold()[0] != Integer.MAX_VALUE && s.untold()[0] <= k)) {
                    fits &= (ahead(start(care), s.day()).hair == s.person()) == s.is();
                }
            }
            if (fits) {
                list.add(care);
            }
        }
        return list;
    }

    int fits(int k) {
        return fitting(k).size();
    }

    int sure(int what, int k) {
        List<Integer> list = fitting(k);
        return list.isEmpty() || what < 0 || what > 1 ? -1 : what == 0 ? list.get(0) : list.get(list.size() - 1);
    }

    int ask(int what, int k) {
        List<Integer> list = fitting(k);
        if (list.isEmpty() || what < 0 || what > 1) {
            return -1;
        }
        int best = -1;
        int fewest = Integer.MAX_VALUE;
        for (int day = 0; day <= 9; day++) {
            int[] left = new int[7];
            for (int care : list) {
                left[ahead(start(care), day).hair + 1]++;
            }
            int most = Arrays.stream(left).max().getAsInt();
            if (most < fewest) {
                fewest = most;
                best = day;
            }
        }
        return what == 0 ? best : fewest;
    }

    int image(int box) {
        if (box < 0 || box > 2) {
            return -1;
        }
        boxes[box] = state.copy();
        return state.day;
    }

    int back(int box) {
        if (box < 0 || box > 2 || boxes[box] == null) {
            return -1;
        }
        state = boxes[box].copy();
        past.clear();
        future.clear();
        return state.day;
    }

    int about(int what) {
        return switch (what) {
            case 0 -> persons();
            case 1 -> knowsList(state).size();
            case 2 -> text.ease;
            case 3 -> state.dyed ? 1 : 0;
            case 4 -> state.day;
            case 5 -> state.seed;
            case 6 -> past.size();
            case 7 -> future.size();
            case 8 -> sights.size();
            case 9 -> time;
            case 10 -> tape.length;
            case 11 -> text.units;
            case 12 -> lying.size();
            default -> -1;
        };
    }
}
