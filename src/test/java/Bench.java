import java.lang.reflect.InvocationTargetException;
import java.lang.reflect.Method;

/** A new WayGuesses whose calls are written as texts, so that a wrong answer can be told with its call. */
final class Bench {
    private static final int MOST_CALLS = 512;

    private final String name;
    private final WayGuesses real = new WayGuesses();
    private int calls = 0;

    Bench(String name) {
        this.name = name;
    }

    /** The call answers what is due. */
    Bench due(String call, int want) {
        Check.due(name + ": " + call, answer(call), want);
        return this;
    }

    /** Each of these calls answers what is due. */
    Bench dueAll(int want, String... all) {
        for (String call : all) due(call, want);
        return this;
    }

    /** Calls whose answers are looked at elsewhere. */
    Bench after(String... all) {
        for (String call : all) answer(call);
        return this;
    }

    /** BRANCHES by hand at one PLACE, a WAY for each character. */
    Bench ways(int place, String ways) {
        for (char way : ways.toCharArray()) answer("branch(" + place + ", " + way + ")");
        return this;
    }

    /** The GUESSES of a GUESSER just ahead of each BRANCH at one PLACE. */
    Bench guesses(int g, int place, String ways, String want) {
        StringBuilder got = new StringBuilder();
        for (char way : ways.toCharArray()) {
            got.append(answer("guess(" + g + ", " + place + ")"));
            answer("branch(" + place + ", " + way + ")");
        }
        Check.that(name + ": guesses " + got + ", due are " + want, got.toString().equals(want));
        return this;
    }

    private long answer(String call) {
        calls++;
        if (calls > MOST_CALLS) throw new IllegalStateException(name + ": more calls than the document allows");
        int open = call.indexOf('(');
        String inner = call.substring(open + 1, call.length() - 1).trim();
        String[] texts = inner.isEmpty() ? new String[0] : inner.split(",");
        try {
            return (Integer) method(call.substring(0, open)).invoke(real, values(texts));
        } catch (InvocationTargetException thrown) {
            System.out.println(name + ": " + call + " threw " + thrown.getCause());
            return Long.MIN_VALUE;
        } catch (IllegalAccessException closed) {
            throw new IllegalStateException(closed);
        }
    }

    private static Method method(String wanted) {
        for (Method m : WayGuesses.class.getMethods()) if (m.getName().equals(wanted)) return m;
        throw new IllegalStateException("no method " + wanted);
    }

    private static Object[] values(String[] texts) {
        Object[] all = new Object[texts.length];
        for (int i = 0; i < texts.length; i++) {
            String text = texts[i].trim();
            boolean truth = text.equals("true") || text.equals("false");
            if (truth) all[i] = Boolean.valueOf(text);
            else all[i] = Integer.valueOf(text);
        }
        return all;
    }
}
