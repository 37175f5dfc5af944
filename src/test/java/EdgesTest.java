import java.lang.reflect.Method;
import java.lang.reflect.Modifier;

/** No call throws, whatever its arguments, in any of some states; and none of those that are refused does anything. */
public final class EdgesTest {
    private static final Check check = new Check();
    private static final int[] VALUES = {Integer.MIN_VALUE, -101, -3, -2, -1, 0, 1, 2, 3, 4, 5, 7, 8, 9, 10, 13, 14, 40, 41,
        60, 61, 99, 100, 101, 200, 201, 999, 1000, 9999, 10000, Integer.MAX_VALUE};
    private static final String EIGHT = "rope 60 5;puller 0 10 6 3;puller 1 8 4 1;puller 0 4 9 9;puller 1 9 5 2;"
        + "puller 1 40 60 0;puller 0 40 60 0;puller 1 1 0 9;puller 0 1 1 1;ribbon 60";
    private static final String BUSY = "pull 3 if place = 0;pull wind/9 if [mates > 1 or worked%3=0] and not boots>5;pull 1";

    public static void main(String[] args) throws Exception {
        for (Method method : TugRope.class.getDeclaredMethods()) {
            if (Modifier.isPublic(method.getModifiers()) && !method.getName().equals("feed")) {
                callWithAll(method);
            }
        }
        check.close("EdgesTest");
    }

    private static TugRope inState(int state) {
        switch (state) {
            case 0: return new TugRope();
            case 1: return Check.made("rope 1 0");
            case 2: return busy();
            default: return full();
        }
    }

    private static TugRope busy() {
        TugRope t = Check.made(EIGHT, BUSY, BUSY, BUSY, BUSY, BUSY, BUSY);
        for (int i = 0; i < 10; i++) {
            t.note(i, t.ahead(0, i + 1, 0));
        }
        t.heave();
        t.image(1);
        t.send(3);
        t.heave();
        return t;
    }

    /** Full of bytes, with 20 ACTS, OVER, and all eight on one SIDE. */
    private static TugRope full() {
        TugRope t = Check.made("rope 1 9" + ";puller 1 40 60 0".repeat(8), "pull 3");
        for (int i = 0; i < 22; i++) {
            t.heave();
            t.front(i % 8);
        }
        for (int i = 0; i < 20; i++) {
            t.feed(i, i, i, i, i);
        }
        return t;
    }

    private static void callWithAll(Method method) throws Exception {
        int arguments = method.getParameterCount();
        int[] at = new int[arguments];
        int step = arguments > 2 ? 3 : 1;
        for (int state = 0; state < 4; state++) {
            TugRope t = inState(state);
            boolean more = true;
            int calls = 0;
            while (more) {
                if (calls++ % 300 == 299) {
                    t = inState(state);
                }
                callOnce(method, t, at);
                more = false;
                for (int i = 0; i < arguments && !more; i++) {
                    at[i] += step;
                    more = at[i] < VALUES.length;
                    at[i] = more ? at[i] : (calls + i) % step;
                }
            }
        }
    }

    private static void callOnce(Method method, TugRope t, int[] at) {
        Object[] arguments = new Object[at.length];
        for (int i = 0; i < at.length; i++) {
            arguments[i] = VALUES[at[i]];
        }
        long before = stateOf(t);
        try {
            int answer = (Integer) method.invoke(t, arguments);
            boolean refused = answer == -1 && !method.getName().equals("force");
            check.is(method.getName() + " refused, and nothing happens", refused && stateOf(t) != before ? 1 : 0, 0);
        } catch (ReflectiveOperationException e) {
            check.is(method.getName() + java.util.Arrays.toString(arguments) + " threw " + e.getCause(), 1, 0);
        }
    }

    private static long stateOf(TugRope t) {
        long state = t.ribbon();
        for (int what = 0; what < 14; what++) {
            state = state * 1000003 + t.count(what);
        }
        for (int who = 0; who < 8; who++) {
            for (int what = 0; what < 7; what++) {
                state = state * 1000003 + t.puller(who, what);
            }
        }
        return state;
    }
}
