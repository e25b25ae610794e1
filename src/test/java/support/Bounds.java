import java.lang.reflect.InvocationTargetException;
import java.lang.reflect.Method;
import java.util.Arrays;

/**
 * Calls at the least and the most that each of their numbers may be, which must be taken, and one step
 * beyond, which must be refused without a change. Each call is made on an object of its own.
 */
final class Bounds {
    private static final String TWICE = "mt";

    private final Due due;
    private final String text;
    private final int boats;
    private final int men;
    private final int teams;

    Bounds(Due due, String text) {
        this.due = due;
        this.text = text;
        LongBoats x = told();
        boats = x.count(0);
        men = x.count(1);
        teams = x.count(2);
    }

    /** The text, a picture in each SLOT, each IMAGE kept, and one byte on the TAPE. */
    private LongBoats told() {
        LongBoats x = Due.told(text);
        for (int slot = 0; slot <= 3; slot++) {
            x.row(slot, 0, 3);
            x.write(slot, 0, slot % 2);
            x.write(slot, 1, 1 - slot % 2);
            x.write(slot, 2, slot);
        }
        for (int k = 0; k <= 2; k++) {
            x.image(k);
        }
        x.feed(0, 0, 0, 0, 0);
        x.end(1);
        return x;
    }

    private int least(String kind) {
        return kind.contains("..") ? Integer.parseInt(kind.substring(0, kind.indexOf(".."))) : 0;
    }

    private int most(String kind) {
        switch (kind) {
            case "b": return boats - 1;
            case "m": return men - 1;
            case "t": return teams - 1;
            default: return Integer.parseInt(kind.substring(kind.indexOf("..") + 2));
        }
    }

    /**
     * A form has a method, and of each of its numbers what it may be: m a MAN (the second one is
     * another), b a BOAT, t a TEAM (likewise), or bounds.
     */
    void hold(String form, long refusal) {
        String[] parts = form.split(" ");
        for (int i = 1; i < parts.length; i++) {
            holdOne(form, i, refusal);
        }
        bothAlike(parts, refusal);
    }

    void holdOne(String form, int which, long refusal) {
        String[] parts = form.split(" ");
        taken(parts[0], with(parts, which, least(parts[which])), refusal);
        refused(parts[0], with(parts, which, least(parts[which]) - 1), refusal);
        refused(parts[0], with(parts, which, Integer.MIN_VALUE), refusal);
        holdMost(form, which, refusal);
    }

    void holdMost(String form, int which, long refusal) {
        String[] parts = form.split(" ");
        taken(parts[0], with(parts, which, most(parts[which])), refusal);
        refused(parts[0], with(parts, which, most(parts[which]) + 1), refusal);
        refused(parts[0], with(parts, which, Integer.MAX_VALUE), refusal);
    }

    /** Numbers that all fit, one being told; who may not be the same one twice is not. */
    private int[] with(String[] parts, int which, int v) {
        int[] numbers = new int[parts.length - 1];
        for (int i = 1; i < parts.length; i++) {
            boolean twin = i > 1 && parts[i].equals(parts[i - 1]) && TWICE.contains(parts[i]);
            numbers[i - 1] = twin ? 1 : least(parts[i]);
        }
        numbers[which - 1] = v;
        for (int i = 2; i < parts.length; i++) {
            boolean twin = parts[i].equals(parts[i - 1]) && TWICE.contains(parts[i]);
            if (twin && numbers[i - 1] == numbers[i - 2]) {
                numbers[which == i ? i - 2 : i - 1] = v == 0 ? 1 : 0;
            }
        }
        return numbers;
    }

    private void bothAlike(String[] parts, long refusal) {
        for (int i = 2; i < parts.length; i++) {
            if (parts[i].equals(parts[i - 1]) && TWICE.contains(parts[i])) {
                for (int v = 0; v <= most(parts[i]); v++) {
                    int[] numbers = with(parts, i, v);
                    numbers[i - 2] = v;
                    refused(parts[0], numbers, refusal);
                }
            }
        }
    }

    private void taken(String name, int[] numbers, long refusal) {
        long got = ask(told(), name, numbers);
        due.due(name + Arrays.toString(numbers) + " being " + refusal, got == refusal ? 1 : 0, 0);
    }

    void refused(String name, long refusal, int... numbers) {
        refused(name, numbers, refusal);
    }

    private void refused(String name, int[] numbers, long refusal) {
        LongBoats x = told();
        String before = State.of(x);
        due.due(name + Arrays.toString(numbers), ask(x, name, numbers), refusal);
        due.dueText("the state after " + name + Arrays.toString(numbers), State.of(x), before);
    }

    /** Without a HARBOUR the same numbers are refused. */
    static void holdWithout(Due due, String form, long refusal) {
        String[] parts = form.split(" ");
        int[] numbers = new int[parts.length - 1];
        for (int i = 0; i < numbers.length; i++) {
            String kind = parts[i + 1];
            boolean twin = i > 0 && kind.equals(parts[i]) && TWICE.contains(kind);
            numbers[i] = kind.contains("..") ? Integer.parseInt(kind.substring(0, kind.indexOf(".."))) : twin ? 1 : 0;
        }
        LongBoats x = new LongBoats();
        String before = State.of(x);
        due.due(parts[0] + Arrays.toString(numbers) + " without a HARBOUR", ask(x, parts[0], numbers), refusal);
        due.dueText("the state after it", State.of(x), before);
    }

    static long ask(LongBoats x, String name, int... numbers) {
        for (Method m : LongBoats.class.getMethods()) {
            if (m.getName().equals(name) && m.getParameterCount() == numbers.length
                    && m.getDeclaringClass() == LongBoats.class) {
                return ask(x, m, numbers);
            }
        }
        throw new IllegalArgumentException("no such method: " + name);
    }

    private static long ask(LongBoats x, Method m, int[] numbers) {
        Object[] boxed = new Object[numbers.length];
        for (int i = 0; i < numbers.length; i++) {
            boxed[i] = m.getParameterTypes()[i] == long.class ? (Object) (long) numbers[i] : (Object) numbers[i];
        }
        try {
            return ((Number) m.invoke(x, boxed)).longValue();
        } catch (IllegalAccessException | InvocationTargetException e) {
            throw new IllegalStateException(m.getName() + Arrays.toString(numbers), e);
        }
    }
}
