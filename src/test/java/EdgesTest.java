/**
 * Each method with every combination of its arguments' edges (the lowest and the highest that is allowed, the next
 * ones outside, the ends of int) in states of every kind; the answer and the checksum afterwards are the plain model's.
 */
public final class EdgesTest {
    private static final int LOW = Integer.MIN_VALUE, HIGH = Integer.MAX_VALUE;
    private static final int[] CODES = {LOW, -1, 0, 31, 32, 47, 48, 58, 126, 127, HIGH};
    private static final int[] WHATS = {LOW, -1, 0, 1, 2, 3, 4, 5, 6, 7, 8, 9, HIGH};
    private static final int[] CHOICES = {LOW, -1, 0, 1, 2, 3, HIGH};
    private static final int[] SEEDS = {LOW, -1, 0, 1, 65535, 65536, HIGH - 1, HIGH};
    private static final int[] TIMES = {LOW, -1, 0, 1, 2, 99, 100, 101, HIGH};

    /** Each with the kinds of its arguments, as edges() knows them. */
    private static final String[] METHODS = {"letter a", "blank", "fault", "form", "about w", "coefficient vv",
        "point pv", "value p", "polar pp", "joined pp", "section po", "flats d", "flat dfl", "near pgo",
        "pick p", "gather g", "drop o", "chosen ol", "left o", "finish o", "ways o", "put vvc", "swap vv",
        "plus vvc", "scale vc", "times c", "image", "restore", "like", "drawn tso", "count w", "digest"};

    private final String setup;
    /** What the state's form has: the prime, the variables, the points, the flats of each degree, the greatest ones. */
    private final int prime, variables, points, greatest;
    private final int[] flats = new int[4];

    private EdgesTest(String setup) {
        this.setup = setup;
        PlainModel model = new PlainModel();
        prepare(model);
        prime = Math.max(model.about(0), 2);
        variables = Math.max(model.about(1), 3);
        points = model.count(0);
        greatest = model.count(2);
        for (int degree = 1; degree <= 3; degree++) {
            flats[degree] = Math.max(model.flats(degree), 0);
        }
    }

    public static void main(String[] args) {
        String lists = "pick(1); pick(3); pick(6); gather(0); gather(1); gather(4)";
        String[] forms = {"2:010/00/1", "2:0100/000/01/0", "2:01000/0000/010/00/1", "2:010000/00000/0100/000/01/0",
            "2:010000/00000/0100/000/11/1", "3:012/10/2", "3:0100/000/10/1", "3:01000/0000/010/00/1", "5:123/40/2",
            "5:0100/000/01/0", "5:1000/100/10/0", "2:000000/00000/0000/000/00/0"};
        new EdgesTest("").go();
        new EdgesTest("text 2:010000/00000/0100/000/01/0").go();
        for (String form : forms) {
            new EdgesTest("text 2:0110/001/01/1; form(); image(); text " + form + "; form(); " + lists
                + "; text 3:000/00/").go();
        }
        Script.end();
    }

    private void prepare(Object x) {
        Script.run("edges", x, setup);
    }

    private void go() {
        for (String line : METHODS) {
            String[] words = line.split(" ");
            String kinds = words.length == 2 ? words[1] : "";
            combine(words[0], kinds, new int[kinds.length()], 0);
        }
    }

    private void combine(String method, String kinds, int[] arguments, int at) {
        if (at < arguments.length) {
            for (int edge : edges(kinds.charAt(at), arguments)) {
                arguments[at] = edge;
                combine(method, kinds, arguments, at + 1);
            }
            return;
        }
        QuadricFlats program = new QuadricFlats();
        PlainModel model = new PlainModel();
        prepare(program);
        prepare(model);
        String call = setup + "; " + method + java.util.Arrays.toString(arguments);
        Script.due(call, Script.answer(program, method, arguments), Script.answer(model, method, arguments));
        Script.due(call + ", then digest", program.digest(), model.digest());
    }

    private int[] edges(char kind, int[] before) {
        switch (kind) {
            case 'a': return CODES;
            case 'w': return WHATS;
            case 'o': return CHOICES;
            case 's': return SEEDS;
            case 't': return TIMES;
            case 'd': return new int[] {LOW, 0, 1, 2, 3, 4, HIGH};
            case 'v': return around(variables);
            case 'c': return around(prime);
            case 'p': return around(points);
            case 'g': return around(greatest);
            case 'f': return around(before[0] >= 1 && before[0] <= 3 ? flats[before[0]] : 1);
            default: return new int[] {LOW, -1, 0, 1, 2, 3, 4, 5, 6, 7, HIGH};
        }
    }

    private static int[] around(int number) {
        return new int[] {LOW, -1, 0, 1, number - 1, number, number + 1, HIGH};
    }
}
