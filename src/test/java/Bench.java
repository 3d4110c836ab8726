import java.lang.reflect.InvocationTargetException;
import java.lang.reflect.Method;
import java.lang.reflect.Modifier;
import java.util.HashMap;
import java.util.Map;

/**
 * A new WayGuesses whose calls are written as texts, so that a wrong answer can be told with its call:
 * "branch(3, 1) = 1; told(3) = 1; empty()". MIN, MAX and the names of the face's constants are numbers, too.
 */
final class Bench {
    private static final int MOST_CALLS = 512;
    private static final Map<String, Integer> NAMES = Map.of("MIN", Integer.MIN_VALUE, "MAX", Integer.MAX_VALUE,
        "NONE", -6, "UNKNOWN", -1, "OUTSIDE", -2, "STATE", -3, "FULL", -4, "NO", -5);
    private static final Map<String, Method> METHODS = new HashMap<>();

    static {
        for (Method m : WayGuesses.class.getDeclaredMethods()) {
            if (Modifier.isPublic(m.getModifiers())) METHODS.put(m.getName(), m);
        }
    }

    private final String name;
    private final WayGuesses real = new WayGuesses();
    private int calls = 0;

    Bench(String name) {
        this.name = name;
    }

    /** Each call answers what is due; one without a due answer is only not refused. */
    Bench see(String... all) {
        for (String several : all) {
            for (String one : several.split(";")) seeOne(one.trim());
        }
        return this;
    }

    private void seeOne(String text) {
        int equals = text.indexOf('=');
        String call = equals < 0 ? text : text.substring(0, equals).trim();
        long got = answer(call);
        if (equals >= 0) Check.due(name + ": " + call, got, number(text.substring(equals + 1)));
        else Check.that(name + ": " + call + " is not refused, it answered " + got, got >= 0 || call.startsWith("hint("));
    }

    /** The calls for each number from least to most, which stands where # is written. */
    Bench each(int least, int most, String calls) {
        for (int i = least; i <= most; i++) see(calls.replace("#", String.valueOf(i)));
        return this;
    }

    /** Each call gives this answer and changes nothing, whatever the object holds. */
    Bench refused(String due, String... all) {
        for (String several : all) {
            for (String one : several.split(";")) {
                String before = Snapshot.of(real);
                see(one + " = " + due);
                Check.that(name + ": " + one.trim() + " changed nothing", Snapshot.of(real).equals(before));
            }
        }
        return this;
    }

    /** BRANCHES by hand at one PLACE, a WAY for each character. */
    Bench ways(int place, String ways) {
        for (char way : ways.toCharArray()) see("branch(" + place + ", " + way + ")");
        return this;
    }

    /** The GUESSES of a GUESSER just ahead of each BRANCH at one PLACE. */
    Bench guesses(int g, int place, String ways, String want) {
        StringBuilder got = new StringBuilder();
        for (char way : ways.toCharArray()) {
            got.append(answer("guess(" + g + ", " + place + ")"));
            see("branch(" + place + ", " + way + ")");
        }
        Check.that(name + ": guesses " + got + ", due are " + want, got.toString().equals(want));
        return this;
    }

    /** A machine within a loop, eight GUESSERS, each of the KIND of its number, HINTS, 9 BRANCHES, things kept. */
    Bench busy() {
        see("op(10, 3, 1, 2, 0); op(11, 11, 1, 0, 10); op(12, 12, 0, 0, 63); register(1, 5); register(2, 1); data(5, 9); stand(10)");
        see("guesser(0, 2, 0, 0); guesser(1, 2, 0, 0); guesser(2, 3, 2, 0); guesser(3, 3, 2, 1); guesser(4, 2, 1, 0)");
        see("guesser(5, 1, 2, 5); guesser(6, 1, 0, 0); guesser(7, 1, 6, 2)");
        return see("run(6) = 6").ways(3, "101").ways(7, "0").see("hint(1, 3, 1); hint(7, 7, 0); keep(1, 0); keep(7, 1)").ways(3, "01");
    }

    private long answer(String call) {
        calls++;
        if (calls > MOST_CALLS) throw new IllegalStateException(name + ": more calls than the document allows");
        int open = call.indexOf('(');
        String inner = call.substring(open + 1, call.length() - 1).trim();
        String[] texts = inner.isEmpty() ? new String[0] : inner.split(",");
        Method method = METHODS.get(call.substring(0, open));
        if (method == null) throw new IllegalStateException(name + ": there is no call " + call);
        try {
            return (Integer) method.invoke(real, values(texts));
        } catch (InvocationTargetException thrown) {
            Check.that(name + ": " + call + " throws nothing, it threw " + thrown.getCause(), false);
            return Long.MIN_VALUE;
        } catch (IllegalAccessException closed) {
            throw new IllegalStateException(closed);
        }
    }

    private static Object[] values(String[] texts) {
        Object[] all = new Object[texts.length];
        for (int i = 0; i < texts.length; i++) {
            String text = texts[i].trim();
            boolean truth = text.equals("true") || text.equals("false");
            if (truth) all[i] = Boolean.valueOf(text);
            else all[i] = number(text);
        }
        return all;
    }

    private static int number(String text) {
        String plain = text.trim();
        return NAMES.containsKey(plain) ? NAMES.get(plain) : Integer.parseInt(plain);
    }
}
