import java.lang.reflect.InvocationTargetException;
import java.lang.reflect.Method;
import java.lang.reflect.Modifier;
import java.util.HashMap;
import java.util.Map;

/**
 * Every call with every number at an edge, in states at the limits: no call throws, each answers as the
 * model does, and leaves all as the model does.
 */
public final class EdgesTest {
    private static final int[] EDGES = {Integer.MIN_VALUE, Integer.MIN_VALUE + 1, -2, -1, 0, 1, 2, 3, 5, 6, 7, 9, 10, 11,
        12, 13, 19, 20, 21, 29, 30, 59, 60, 61, 99, 100, 998, 999, 1000, 1001, Integer.MAX_VALUE};
    private static final int CALLS_OF_ONE = 300;
    private static final int MOST_WRONG = 20;
    private static final String SIX = "person a of 0 cares 99 news 100 of 20;person b of 1 cares 0 news 0 of 1;"
            + "person c of 0 cares 50 news 37 of 9;person d of 1 cares 98 news 99 of 20;person e of 0 cares 1;"
            + "person f of 1 cares 50;";
    private static final String TWELVE = "knows a b;knows a c;knows b c;knows b d;knows c d;knows c e;knows d e;"
            + "knows d f;knows e f;knows e a;knows f a;knows f b;";
    // each state: a text, then calls
    private static final String[][] STATES = {
        {""},
        {"", "day", "day", "undo", "image 0", "later 1000"},
        {"person a of 0 cares 0;ease 0;draw 999;"},
        {"person a of 1 cares 99;grows 0-1;", "dye", "image 1", "day", "seen 0 0 true"},
        {SIX},
        {SIX + TWELVE + "worry care*9+known*2-has*300;grows known/60-has*9;ease 500;", "rank", "seen 9 5 false",
            "later 1", "untell 0", "seen 1 -1 false", "take 4 9", "undo", "image 2", "dye"},
        {SIX + TWELVE + "worry 999-care*4-day*30;grows day-house*5;ease 600;draw 17;", "day", "day", "path 6", "later 60",
            "seen 3 2 false", "pluck", "undo"},
        {SIX + "worry known*(1-house)+care*house;ease 99;grows 0-care;", "forget 0 1", "tell 5 0", "day", "pluck"},
    };

    private static final Map<String, Method> OF_CLASS = methods(GreyHair.class, true);
    private static final Map<String, Method> OF_MODEL = methods(Model.class, false);
    private static int asked = 0;
    private static int wrong = 0;

    public static void main(String[] args) throws IllegalAccessException {
        for (int state = 0; state < STATES.length; state++) {
            for (String name : OF_CLASS.keySet()) {
                sweep(state, name);
            }
        }
        System.out.println(wrong == 0 ? asked + " calls at edges answer as the model" : wrong + " answers differ");
        System.exit(wrong == 0 ? 0 : 1);
    }

    private static Map<String, Method> methods(Class<?> of, boolean publicOnly) {
        Map<String, Method> all = new HashMap<>();
        for (Method m : of.getDeclaredMethods()) {
            if (!m.isSynthetic() && (!publicOnly || Modifier.isPublic(m.getModifiers()))) {
                all.put(m.getName(), m);
            }
        }
        return all;
    }

    private static void sweep(int state, String name) throws IllegalAccessException {
        Class<?>[] types = OF_CLASS.get(name).getParameterTypes();
        int ways = 1;
        for (Class<?> type : types) {
            ways *= name.equals("feed") ? 2 : type == boolean.class ? 2 : EDGES.length;
        }
        Both both = null;
        for (int way = 0; way < ways && wrong < MOST_WRONG; way++) {
            if (way % CALLS_OF_ONE == 0) {
                both = new Both(state);
            }
            Object[] args = new Object[types.length];
            int rest = way;
            for (int i = 0; i < types.length; i++) {
                int size = name.equals("feed") || types[i] == boolean.class ? 2 : EDGES.length;
                args[i] = types[i] == boolean.class ? (Object) (rest % 2 == 1) : (Object) EDGES[rest % size];
                rest /= size;
            }
            both.call(name, args);
            both.compare(name);
        }
    }

    private static final class Both {
        final int state;
        final GreyHair x = new GreyHair();
        final Model m = new Model();

        Both(int state) throws IllegalAccessException {
            this.state = state;
            Due.put(x, STATES[state][0]);
            String text = STATES[state][0];
            m.tape = new byte[text.length()];
            for (int i = 0; i < text.length(); i++) {
                m.tape[i] = (byte) text.charAt(i);
            }
            call("family");
            for (int i = 1; i < STATES[state].length; i++) {
                String[] words = STATES[state][i].split(" ");
                Object[] args = new Object[words.length - 1];
                for (int j = 1; j < words.length; j++) {
                    boolean isNumber = words[j].matches("-?\\d+");
                    args[j - 1] = isNumber ? (Object) Integer.parseInt(words[j]) : (Object) Boolean.parseBoolean(words[j]);
                }
                call(words[0], args);
            }
        }

        void call(String name, Object... args) throws IllegalAccessException {
            asked++;
            String got;
            String want;
            try {
                got = String.valueOf(OF_CLASS.get(name).invoke(x, args));
            } catch (InvocationTargetException e) {
                got = String.valueOf(e.getCause());
            }
            try {
                want = String.valueOf(OF_MODEL.get(name).invoke(m, args));
            } catch (InvocationTargetException e) {
                want = String.valueOf(e.getCause());
            }
            if (!got.equals(want)) {
                wrong++;
                System.out.println("state " + state + ": " + name + java.util.Arrays.toString(args) + " answered " + got
                        + ", the model " + want);
            }
        }

        void compare(String name) {
            boolean same = x.hair() == m.hair();
            for (int what = 0; what <= 12; what++) {
                same &= x.about(what) == m.about(what);
            }
            for (int person = 0; person < m.persons(); person++) {
                for (int what = 0; what <= 6; what++) {
                    same &= x.person(person, what) == m.person(person, what);
                }
            }
            for (int i = 0; i <= 6; i++) {
                same &= x.lies(i) == m.lies(i);
            }
            if (!same) {
                wrong++;
                System.out.println("state " + state + ": all is not as with the model behind " + name);
            }
        }
    }
}
