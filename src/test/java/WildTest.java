import java.lang.reflect.Method;
import java.lang.reflect.Modifier;
import java.util.ArrayList;
import java.util.Arrays;
import java.util.Comparator;
import java.util.List;
import java.util.Random;

/** Any calls in any state: none throws, and one that is refused changes nothing. */
public final class WildTest {
    private static final Random RANDOM = new Random(512);
    private static final String SIGNS = "01*fbhoa;0123456789fduhx()[]!&|<>=+-*/%kpqbcovatr.>";

    public static void main(String[] args) throws Exception {
        List<Method> calls = new ArrayList<>();
        for (Method method : TwoKings.class.getDeclaredMethods()) {
            if (Modifier.isPublic(method.getModifiers())) {
                calls.add(method);
            }
        }
        calls.sort(Comparator.comparing(Method::getName));
        Kit.due("calls of the face", calls.size(), 30);
        for (int i = 0; i < 4000; i++) {
            wildRun(calls);
        }
        Kit.end();
    }

    /** Some calls, then one that is looked at: all within the 512 that an object is used for. */
    private static void wildRun(List<Method> calls) throws Exception {
        TwoKings x = new TwoKings();
        int ahead = RANDOM.nextInt(60);
        for (int i = 0; i < ahead; i++) {
            wildCall(x, calls.get(RANDOM.nextInt(calls.size())), false);
        }
        wildCall(x, calls.get(RANDOM.nextInt(calls.size())), true);
    }

    private static void wildCall(TwoKings x, Method call, boolean looked) throws Exception {
        if (RANDOM.nextInt(3) == 0) {
            Kit.text(x, someText());
        }
        Object[] with = new Object[call.getParameterCount()];
        for (int j = 0; j < with.length; j++) {
            with[j] = call.getParameterTypes()[j] == boolean.class ? (Object) RANDOM.nextBoolean() : someNumber();
        }
        String before = looked ? Kit.picture(x) : "";
        Object answer = call.invoke(x, with);
        boolean isCheck = call.getName().equals("check");
        boolean refused = answer instanceof Boolean ? !(Boolean) answer : ((Number) answer).longValue() == -1;
        if (looked && refused && !isCheck) {
            Kit.due(call.getName() + " " + Arrays.toString(with) + " is refused and changes nothing",
                    Kit.picture(x), before);
        }
    }

    private static Integer someNumber() {
        switch (RANDOM.nextInt(8)) {
            case 0: return RANDOM.nextInt();
            case 1: return RANDOM.nextInt(300) - 20;
            case 2: return new int[] {Integer.MIN_VALUE, Integer.MAX_VALUE, -1, 0, 1, 100, 101}[RANDOM.nextInt(7)];
            default: return RANDOM.nextInt(12);
        }
    }

    private static String someText() {
        String[] whole = {"f[p-q]/r(r>k&!(b>c|o<v));x(o>99*t)", "*f12;0b3;1o;*a7;1h", "a<b;b=c;d<c;e=f", "><.><.><.",
            "f9%[r-5](a=1);d[b+1]*[c-3](1=1);u5(t>2);h(r>4)"};
        StringBuilder text = new StringBuilder(RANDOM.nextBoolean() ? whole[RANDOM.nextInt(whole.length)] : "");
        int more = RANDOM.nextInt(text.length() > 0 ? 2 : 30);
        for (int i = 0; i < more; i++) {
            text.insert(RANDOM.nextInt(text.length() + 1), SIGNS.charAt(RANDOM.nextInt(SIGNS.length())));
        }
        return text.toString();
    }
}
