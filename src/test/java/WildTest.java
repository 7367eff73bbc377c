import java.lang.reflect.InvocationTargetException;
import java.lang.reflect.Method;
import java.lang.reflect.Modifier;

/**
 * LANGUAGE.md, rule 7: no call throws, for any arguments, in an empty state, a full one, and what such calls make of
 * them. Answers are not asked, so it goes beyond the 512 calls after which they are free.
 */
final class WildTest {
    private static final int[] WILD = {Integer.MIN_VALUE, -2, -1, 0, 1, 4, 9, 10, 400, 3599, 200000, Integer.MAX_VALUE};
    private static final int[] FEW = {Integer.MIN_VALUE, -1, 0, 9, 59, Integer.MAX_VALUE};
    private static final Check check = new Check("WildTest");

    public static void main(String[] args) throws IllegalAccessException {
        BangSquare empty = new BangSquare();
        BangSquare full = new BangSquare();
        RefusedTest.full(full);
        for (BangSquare square : new BangSquare[] {empty, full}) {
            for (int round = 0; round < 2; round++) {
                for (Method method : BangSquare.class.getDeclaredMethods()) {
                    if (Modifier.isPublic(method.getModifiers())) {
                        askAll(square, method);
                    }
                }
            }
        }
        check.close();
    }

    private static void askAll(BangSquare square, Method method) throws IllegalAccessException {
        int count = method.getParameterCount();
        int[] values = count > 3 ? FEW : WILD;
        int all = 1;
        for (int i = 0; i < count; i++) {
            all *= values.length;
        }
        String thrown = "";
        for (int n = 0; n < all && thrown.isEmpty(); n++) {
            Object[] given = new Object[count];
            int rest = n;
            for (int i = 0; i < count; i++) {
                int v = values[rest % values.length];
                given[i] = method.getParameterTypes()[i] == boolean.class ? (Object) (v > 0) : (Object) v;
                rest /= values.length;
            }
            try {
                method.invoke(square, given);
            } catch (InvocationTargetException e) {
                thrown = java.util.Arrays.toString(given) + " threw " + e.getCause();
            }
        }
        check.due(method.getName() + " never throws " + thrown, thrown.isEmpty(), true);
    }
}
