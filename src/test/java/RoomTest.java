import java.lang.reflect.Array;
import java.lang.reflect.Field;
import java.lang.reflect.Modifier;
import java.util.ArrayDeque;
import java.util.Collections;
import java.util.Deque;
import java.util.IdentityHashMap;
import java.util.Set;

/** What an object takes up, and that it serves all the calls that the document gives it. */
public final class RoomTest {
    private static final int MOST_CALLS = 512;
    private static final int KINDS = 16;

    public static void main(String[] args) throws Exception {
        Kit.says("An object is used for at most 512 calls after it has been made");
        lastCalls();
        room();
        Kit.end();
    }

    /** The dearest call of a kind, again and again: the 512th call answers what it answers on a new object. */
    private static void lastCalls() {
        for (int kind = 0; kind < KINDS; kind++) {
            TwoKings x = new TwoKings();
            int cost = fed(kind) + 1;
            int calls = 0;
            while (calls + 2 * cost <= MOST_CALLS) {
                answer(x, kind);
                calls += cost;
            }
            while (calls + cost < MOST_CALLS) {
                x.tried(240, 0);
                calls++;
            }
            long want = answer(new TwoKings(), kind);
            Kit.due("kind " + kind + " is not refused", want >= 0, true);
            Kit.due("the 512th call, kind " + kind, answer(x, kind), want);
            Kit.due("calls", calls + cost, MOST_CALLS);
        }
    }

    /** How many calls of feed go ahead of a kind's call. */
    private static int fed(int kind) {
        return (onTheTape(kind).length() + 19) / 20;
    }

    private static String onTheTape(int kind) {
        switch (kind) {
            case 0: return Kit.times("f[[[[p+q]*b]*c]*o]*v(((!(k<t&r>a))))", 6, ";");
            case 1: return Kit.times("*f999", 19, ";") + ";*a9";
            case 2: return Kit.times("a<p", 24, ";");
            case 3: return ">>>...<<<";
            case 4: return "24 bytes, as you can see";
            case 5: return "\1\2\3\4\5\6\7\10\11\12\24\23\22\21\20\17\16\15\14\13";
            case 6: return "sixteen of them.";
            case 7: return "\1\2\4\10\20\36\35\34";
            case 8: return "\1\2\4\10\20\40";
            case 9: return "just twenty of them.";
            case 10: return "four";
            default: return "";
        }
    }

    private static long answer(TwoKings x, int kind) {
        Kit.text(x, onTheTape(kind));
        int n = onTheTape(kind).length();
        switch (kind) {
            case 0: return x.law(n);
            case 1: return x.orders(n);
            case 2: return x.treaty(n);
            case 3: return x.lane(9, 0);
            case 4: return x.signing(12, 0);
            case 5: return x.titles(10, 10, 0);
            case 6: return x.gifts(8, 1);
            case 7: return x.cushions(8, 9, 9, 0);
            case 8: return x.table(6, 100);
            case 9: return x.tent(20, 1);
            case 10: return x.check();
            case 11: return x.drums(0, 999, 999, 1000);
            case 12: return x.stairs(40, 5, 0);
            case 13: return x.heralds(10, 10);
            case 14: return x.keep();
            default: return x.king(0, 999, true) ? 1 : 0;
        }
    }

    /** A room has some 600,000 objects and 7.3 million fields and elements: a hundredth of it is plenty for one object. */
    private static void room() throws Exception {
        TwoKings x = new TwoKings();
        long[] first = size(x);
        Kit.due("objects: " + first[0], first[0] < 100, true);
        Kit.due("fields and elements: " + first[1], first[1] < 6000, true);
        for (int kind = 0; kind < KINDS; kind++) {
            answer(x, kind);
        }
        x.king(0, 999, false);
        x.breaths(240);
        long[] last = size(x);
        Kit.due("objects that calls added", last[0], first[0]);
        Kit.due("fields and elements that calls added", last[1], first[1]);
    }

    /** How many objects and arrays hang on this one, and how many fields and elements they have. */
    private static long[] size(Object root) throws Exception {
        Set<Object> seen = Collections.newSetFromMap(new IdentityHashMap<>());
        Deque<Object> open = new ArrayDeque<>();
        open.add(root);
        long parts = 0;
        while (!open.isEmpty()) {
            Object one = open.remove();
            if (seen.add(one)) {
                parts += one.getClass().isArray() ? elements(one, open) : fields(one, open);
            }
        }
        return new long[] {seen.size(), parts};
    }

    private static int elements(Object array, Deque<Object> open) {
        int length = Array.getLength(array);
        for (int i = 0; i < length && !array.getClass().getComponentType().isPrimitive(); i++) {
            open.add(Array.get(array, i));
        }
        return length;
    }

    private static int fields(Object one, Deque<Object> open) throws Exception {
        int fields = 0;
        for (Class<?> of = one.getClass(); of != Object.class; of = of.getSuperclass()) {
            for (Field field : of.getDeclaredFields()) {
                if (Modifier.isStatic(field.getModifiers())) {
                    continue;
                }
                fields++;
                field.setAccessible(true);
                Object value = field.getType().isPrimitive() ? null : field.get(one);
                if (value != null) {
                    open.add(value);
                }
            }
        }
        return fields;
    }
}
