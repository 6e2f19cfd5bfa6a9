import java.util.Random;

/** Runs of drawn calls, right and wrong ones, each answer compared with the plain model's. */
public final class ModelTest {
    private static final int CALLS = 512;
    private static final String[] NONSINGULAR = {
        "2:010/00/1", "3:010/00/1", "5:010/00/1", "5:100/10/2",
        "2:0100/000/01/0", "2:0100/000/11/1", "3:0100/000/01/0", "3:0100/000/10/1",
        "5:0100/000/01/0", "5:0100/000/10/2", "5:1000/100/10/1",
        "2:01000/0000/010/00/1", "3:01000/0000/010/00/1", "3:10000/1000/100/10/2",
        "2:010000/00000/0100/000/01/0", "2:010000/00000/0100/000/11/1"};
    private static final int[] WILD = {Integer.MIN_VALUE, -65536, -104, -2, -1, 0, 1, 2, 3, 4, 5, 6, 7, 8, 9,
        12, 27, 28, 29, 40, 63, 64, 100, 101, 105, 156, 1000, Integer.MAX_VALUE};
    /** Each with the kinds of its arguments, as drawArgument() knows them. */
    private static final String[] METHODS = {"letter a", "blank", "fault", "form", "about w", "coefficient vv",
        "point pv", "value p", "polar pp", "joined qq", "section pw", "flats d", "flat dfw", "near qfo",
        "pick q", "gather f", "drop o", "chosen of", "left o", "finish o", "ways o", "put vvc", "swap vv",
        "plus vvc", "scale vc", "times c", "image", "restore", "like", "drawn tso", "count w", "digest"};

    private final QuadricFlats program = new QuadricFlats();
    private final PlainModel model = new PlainModel();
    private final Random random;
    private final StringBuilder story = new StringBuilder();
    private int calls;

    private ModelTest(long seed) {
        random = new Random(seed);
    }

    public static void main(String[] args) {
        everySmallForm();
        int runs = args.length > 0 ? Integer.parseInt(args[0]) : 150;
        for (int run = 0; run < runs; run++) {
            new ModelTest(run).go(run);
        }
        Script.end();
    }

    /** All forms in 3 variables over 2 and 3 elements and all in 4 over 2: points, type and flats. */
    private static void everySmallForm() {
        int[][] spaces = {{2, 3, 64}, {2, 4, 1024}, {3, 3, 729}};
        for (int[] space : spaces) {
            for (int code = 0; code < space[2]; code++) {
                StringBuilder text = new StringBuilder(space[0] + ":");
                int rest = code;
                for (int length = space[1]; length >= 1; length--) {
                    for (int k = 0; k < length; k++) {
                        text.append(rest % space[0]);
                        rest /= space[0];
                    }
                    text.append(length > 1 ? "/" : "");
                }
                ModelTest test = new ModelTest(code);
                test.type(text.toString());
                test.call("digest");
                test.call("ways", 0);
                test.call("ways", 1);
            }
        }
    }

    private void go(int run) {
        if (run % 10 == 9) {
            randomCalls(CALLS);
            return;
        }
        while (calls < CALLS - 40) {
            type(random.nextInt(4) == 0 ? drawnText() : NONSINGULAR[random.nextInt(NONSINGULAR.length)]);
            int mix = random.nextInt(12);
            for (int k = 0; k < mix && calls < CALLS - 2; k++) {
                int prime = (int) call("about", 0);
                call("plus", random.nextInt(6), random.nextInt(6), random.nextInt(Math.max(prime, 1)));
            }
            call("digest");
            randomCalls(30 + random.nextInt(90));
        }
    }

    private void type(String text) {
        if (calls + text.length() + 2 > CALLS) {
            return;
        }
        call("blank");
        for (char sign : text.toCharArray()) {
            call("letter", sign);
        }
        call("form");
    }

    private String drawnText() {
        int prime = new int[] {2, 3, 5}[random.nextInt(3)];
        int most = prime == 2 ? 6 : prime == 3 ? 5 : 4;
        int n = 3 + random.nextInt(most - 2);
        StringBuilder text = new StringBuilder(prime + ":");
        for (int length = n; length >= 1; length--) {
            for (int k = 0; k < length; k++) {
                text.append(random.nextInt(3) == 0 ? random.nextInt(prime) : random.nextInt(2) * random.nextInt(prime));
            }
            text.append(length > 1 ? "/" : "");
        }
        if (random.nextInt(4) == 0) {
            text.setCharAt(random.nextInt(text.length()), "0123456789:/ ".charAt(random.nextInt(13)));
        }
        return text.toString();
    }

    private void randomCalls(int number) {
        for (int k = 0; k < number && calls < CALLS; k++) {
            String[] words = METHODS[random.nextInt(METHODS.length)].split(" ");
            String kinds = words.length == 2 ? words[1] : "";
            boolean changing = "form put times restore scale swap plus".contains(words[0]);
            if (changing && random.nextInt(4) != 0) {
                continue;
            }
            int[] arguments = new int[kinds.length()];
            for (int i = 0; i < arguments.length; i++) {
                arguments[i] = drawArgument(kinds.charAt(i));
            }
            call(words[0], arguments);
        }
    }

    private int drawArgument(char kind) {
        if (random.nextInt(12) == 0) {
            return WILD[random.nextInt(WILD.length)];
        }
        switch (kind) {
            case 'a': return random.nextInt(5) == 0 ? 30 + random.nextInt(99) : "0012:/35".charAt(random.nextInt(8));
            case 'w': return random.nextInt(9);
            case 'v': return random.nextInt(random.nextInt(3) == 0 ? 7 : 4);
            case 'p': return random.nextInt(160);
            case 'q': return onQuadric();
            case 'd': return 1 + random.nextInt(3);
            case 'f': return random.nextInt(random.nextInt(3) == 0 ? 110 : 12);
            case 'o': return random.nextInt(2);
            case 'c': return random.nextInt(5);
            case 't': return 1 + random.nextInt(100);
            default: return random.nextInt(Integer.MAX_VALUE);
        }
    }

    private int onQuadric() {
        int members = model.flats(1);
        return members > 0 ? model.flat(1, random.nextInt(members), 0) : random.nextInt(20);
    }

    private long call(String method, int... arguments) {
        calls++;
        String call = method + java.util.Arrays.toString(arguments);
        long want = Script.answer(model, method, arguments);
        long got = Script.answer(program, method, arguments);
        story.append(call).append(" = ").append(want).append("; ");
        Script.due(got == want ? call : story.toString(), got, want);
        if (want <= -101 && want >= -104 && random.nextInt(4) == 0 && calls < CALLS && !method.equals("digest")) {
            calls++;
            Script.due(story + "then digest", program.digest(), model.digest());
        }
        return want;
    }
}
