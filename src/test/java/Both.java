import java.lang.reflect.InvocationTargetException;
import java.lang.reflect.Method;
import java.util.Arrays;
import java.util.NoSuchElementException;

/** A SkinLedger and a Model that are asked the same calls. */
final class Both {
    static final long THROWN = Long.MIN_VALUE;

    final SkinLedger ledger = new SkinLedger();
    final Model model = new Model();
    final StringBuilder told = new StringBuilder();
    int calls = 0;
    int wrong = 0;

    /** The answer of the SkinLedger, held against the Model's. */
    long ask(String call, int... args) {
        long got = answer(ledger, call, args);
        long due = answer(model, call, args);
        calls++;
        told.append(call).append(Arrays.toString(args)).append(" = ").append(got).append('\n');
        if (got != due) {
            wrong++;
            System.out.println(told + "due is " + due);
        }
        return got;
    }

    private static long answer(Object asked, String call, int[] args) {
        Class<?>[] types = new Class<?>[args.length];
        Object[] values = new Object[args.length];
        for (int i = 0; i < args.length; i++) {
            types[i] = int.class;
            values[i] = args[i];
        }
        try {
            Method method = asked.getClass().getDeclaredMethod(call, types);
            Object answer = method.invoke(asked, values);
            return answer instanceof Boolean b ? (b ? 1 : 0) : (Integer) answer;
        } catch (InvocationTargetException e) {
            if (e.getCause() instanceof NoSuchElementException) {
                return THROWN;
            }
            throw new IllegalStateException(call + Arrays.toString(args), e.getCause());
        } catch (ReflectiveOperationException e) {
            throw new IllegalStateException(call, e);
        }
    }
}
