import java.lang.reflect.InvocationTargetException;
import java.lang.reflect.Method;

/**
 * Runs of calls written as the document writes its examples: "letter(50) = 1; fault() = 10; ..".
 * Two abbreviations: text "2:.." puts each character by letter(), and a call without "=" has no answer due.
 * The plain model runs along, so that an answer that is due has two witnesses.
 */
final class Script {
    private static int wrong = 0;
    private static int compared = 0;

    private Script() {
    }

    static QuadricFlats run(String name, String calls) {
        run(name + ", plain model", new PlainModel(), calls);
        return run(name, new QuadricFlats(), calls);
    }

    static <T> T run(String name, T x, String calls) {
        for (String part : calls.split(";")) {
            String step = part.trim();
            if (step.startsWith("text ")) {
                type(x, step.substring(5).trim());
            } else if (!step.isEmpty()) {
                step(name, x, step);
            }
        }
        return x;
    }

    static void type(Object x, String text) {
        for (int i = 0; i < text.length(); i++) {
            due("text " + text, answer(x, "letter", text.charAt(i)) > 0 ? 1 : 0, 1);
        }
    }

    private static void step(String name, Object x, String step) {
        String[] halves = step.split("=");
        String call = halves[0].trim();
        long got = answer(x, call);
        if (halves.length == 2) {
            due(name + ": " + call, got, Long.parseLong(halves[1].trim()));
        }
    }

    static long answer(Object x, String call) {
        int open = call.indexOf('(');
        String inside = call.substring(open + 1, call.length() - 1).trim();
        String[] words = inside.isEmpty() ? new String[0] : inside.split(",");
        int[] arguments = new int[words.length];
        for (int i = 0; i < words.length; i++) {
            arguments[i] = Integer.parseInt(words[i].trim());
        }
        return answer(x, call.substring(0, open), arguments);
    }

    static long answer(Object x, String method, int... arguments) {
        Class<?>[] types = new Class<?>[arguments.length];
        Object[] boxed = new Object[arguments.length];
        for (int i = 0; i < arguments.length; i++) {
            types[i] = int.class;
            boxed[i] = arguments[i];
        }
        try {
            Method found = x.getClass().getDeclaredMethod(method, types);
            return ((Number) found.invoke(x, boxed)).longValue();
        } catch (InvocationTargetException e) {
            throw new IllegalStateException(method + java.util.Arrays.toString(arguments) + " threw", e.getCause());
        } catch (ReflectiveOperationException e) {
            throw new IllegalStateException(e);
        }
    }

    static void due(String what, long got, long want) {
        compared++;
        if (got != want) {
            wrong++;
            if (wrong <= 50) {
                System.out.println(what + " answered " + got + ", due is " + want);
            }
        }
    }

    static void end() {
        System.out.println(compared + " answers compared, " + wrong + " wrong");
        if (wrong != 0 || compared == 0) {
            System.exit(1);
        }
    }
}
