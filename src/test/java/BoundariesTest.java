import java.math.BigInteger;

/**
 * Each sentence of the document that names a boundary case, with a test of its own: the Description first, then
 * the promises in their order. The refused calls have theirs in RefusalsTest, the texts in TextTest.
 */
public final class BoundariesTest {
    /** The prime, the variables, the points. */
    private static final int[][] SPACES = {{2, 3, 7}, {2, 4, 15}, {2, 5, 31}, {2, 6, 63}, {3, 3, 13}, {3, 4, 40},
        {3, 5, 121}, {5, 3, 31}, {5, 4, 156}};
    /** Text; points on the quadric, lines, planes, type, index, ovoids, spreads; entries of an ovoid, of a spread. */
    private static final Object[][] NONSINGULAR = {
        {"2:010/00/1", 3, 0, 0, 0, 1, 1, 1, 3, 3}, {"3:010/00/1", 4, 0, 0, 0, 1, 1, 1, 4, 4},
        {"5:010/00/1", 6, 0, 0, 0, 1, 1, 1, 6, 6},
        {"2:0100/000/01/0", 9, 6, 0, 1, 2, 6, 2, 3, 3}, {"3:0100/000/01/0", 16, 8, 0, 1, 2, 24, 2, 4, 4},
        {"5:0100/000/01/0", 36, 12, 0, 1, 2, 720, 2, 6, 6},
        {"2:0100/000/11/1", 5, 0, 0, 2, 1, 1, 1, 5, 5}, {"3:0100/000/10/1", 10, 0, 0, 2, 1, 1, 1, 10, 10},
        {"5:0100/000/10/2", 26, 0, 0, 2, 1, 1, 1, 26, 26},
        {"2:01000/0000/010/00/1", 15, 15, 0, 0, 2, 6, 6, 5, 5}, {"3:01000/0000/010/00/1", 40, 40, 0, 0, 2, 36, 0, 10, 10},
        {"2:010000/00000/0100/000/01/0", 35, 105, 30, 1, 3, 56, 0, 5, 5},
        {"2:010000/00000/0100/000/11/1", 27, 45, 0, 2, 2, 0, 200, 9, 9}};
    private static final String CONIC = "text 2:010/00/1; form() = 7; ";
    private static final String GRID2 = "text 2:0100/000/01/0; form() = 15; ";
    private static final String GRID5 = "text 5:0100/000/01/0; form() = 156; ";
    private static final String KLEIN = "text 2:010000/00000/0100/000/01/0; form() = 63; ";
    private static final String PARABOLIC2 = "text 2:01000/0000/010/00/1; form() = 31; ";
    private static final String PARABOLIC3 = "text 3:01000/0000/010/00/1; form() = 121; ";
    private static final String ZERO = "text 2:000/00/0; form() = 7; ";
    private static final String CONE5 = "text 5:1000/100/10/0; form() = 156; ";

    public static void main(String[] args) {
        formsAndPoints();
        numbersOfPoints();
        flatsInOrder();
        typesAndDiscriminants();
        ovoidsAndSpreads();
        firstOnes();
        pageAndImage();
        newObject();
        texts();
        properties();
        pointsOfTheForm();
        sections();
        flats();
        near();
        pickAndGather();
        dropAndChosen();
        left();
        finish();
        finishLimit();
        ways();
        waysLimit();
        inPlaceOfAnother();
        put();
        swap();
        plus();
        scaleAndTimes();
        substitutions();
        imageAndRestore();
        like();
        drawn();
        count();
        digest();
        lastCall();
        Script.end();
    }

    private static void says(String sentence, String calls) {
        Script.run("the Description, \"" + sentence + "\"", calls);
    }

    private static void holds(int promise, String sentence, String calls) {
        Script.run("promise " + promise + ", \"" + sentence + "\"", calls);
    }

    /** In each space, starting with the form 0, the words in braces stand for the space's numbers. */
    private static void inEachSpace(int promise, String sentence, String calls) {
        for (int[] space : SPACES) {
            int section = (space[2] - 1) / space[0];
            String filled = calls.replace("{P-2}", "" + (space[0] - 2)).replace("{P-1}", "" + (space[0] - 1))
                .replace("{P}", "" + space[0]).replace("{N-1}", "" + (space[1] - 1)).replace("{N}", "" + space[1])
                .replace("{last}", "" + (space[2] - 1)).replace("{points}", "" + space[2])
                .replace("{section}", "" + section).replace("{two sections}", "" + (2 * section - (section - 1) / space[0]))
                .replace("{1+1}", "" + 2 % space[0]);
            holds(promise, sentence, zeros(space) + filled);
        }
    }

    private static String zeros(int[] space) {
        StringBuilder text = new StringBuilder("text ").append(space[0]).append(':');
        for (int length = space[1]; length >= 1; length--) {
            text.append("0".repeat(length)).append(length > 1 ? "/" : "");
        }
        return text + "; form() = " + space[2] + "; ";
    }

    // ---- the Description

    private static void formsAndPoints() {
        says("At first there is no form", "about(0) = -103; count(0) = 0; count(6) = 0; coefficient(0, 0) = -101; "
            + "image() = -103");
        says("c(j, i) means the same", "text 5:0123/123/34/1; form() = 156; coefficient(3, 0) = 3; coefficient(0, 3) = 3; "
            + "put(3, 0, 4) = 3; coefficient(0, 3) = 4; put(0, 3, 1) = 4; coefficient(3, 0) = 1; coefficient(3, 1) = 3");
        says("All computations are modulo P", "text 5:444/44/4; form() = 31; value(30) = 3; value(0) = 4; "
            + "polar(30, 30) = 1; "
            + "polar(0, 30) = 2; text 3:222/22/2; form() = 13; value(12) = 1; value(8) = 0; polar(12, 12) = 2");
        says("The polar value of two vectors: also of the same one", CONIC + "polar(0, 0) = 0; polar(6, 6) = 0; "
            + "text 3:100/10/1; form() = 13; polar(0, 0) = 2; polar(12, 12) = 0; polar(2, 2) = 1");
        says("It is singular if it is on the quadric and its polar value with every point is 0",
            CONIC + "value(0) = 1; polar(0, 0) = 0; polar(0, 1) = 0; polar(0, 3) = 0; polar(0, 6) = 0; about(4) = 0; "
            + "put(2, 2, 0) = 1; about(4) = 1; put(0, 1, 0) = 1; about(4) = 7; put(2, 2, 1) = 0; about(3) = 3; "
            + "about(4) = 3");
        says("The form is nonsingular if it has no singular point",
            CONE5 + "about(4) = 1; about(5) = 3; flats(1) = -103; put(3, 3, 1) = 0; about(4) = 0; flats(1) = 36");
        says("Two points are collinear if they are different",
            GRID2 + "joined(0, 0) = 0; joined(0, 3) = 1; joined(14, 14) = 0; " + ZERO + "joined(3, 3) = 0; "
            + "joined(3, 4) = 1");
        says("all points of the line through them are on the quadric",
            "text 3:0100/000/01/0; form() = 40; joined(0, 1) = 0; value(0) = 0; value(1) = 0; value(2) = 1; "
            + "joined(0, 4) = 1; "
            + "value(5) = 0; value(7) = 0; joined(4, 8) = 0; joined(0, 2) = 0");
    }

    /** "numbered from 0 in lexicographic order", "whose first number that is not 0 is 1" */
    private static void numbersOfPoints() {
        for (int[] space : SPACES) {
            int last = 0;
            for (int point = 0; point < space[2]; point++) {
                QuadricFlats x = Script.run("points", zeros(space));
                int code = 0;
                int leading = 0;
                for (int i = 0; i < space[1]; i++) {
                    int number = x.point(point, i);
                    Script.due("0 to P - 1: point " + point, number >= 0 && number < space[0] ? 1 : 0, 1);
                    code = code * space[0] + number;
                    leading = leading == 0 ? number : leading;
                }
                Script.due("lexicographic order: point " + point + " of " + zeros(space), code > last ? 1 : 0, 1);
                Script.due("the first number that is not 0: point " + point, leading, 1);
                last = code;
            }
        }
    }

    /** "numbered from 0 in the lexicographic order of the increasing sequences of the numbers of their points" */
    private static void flatsInOrder() {
        for (Object[] row : NONSINGULAR) {
            String start = "text " + row[0] + "; form()";
            int prime = Script.run("flats in order", start).about(0);
            int[] sizes = {0, 1, 1 + prime, 1 + prime + prime * prime};
            for (int degree = 1; degree <= 3; degree++) {
                String name = "degree " + degree + " of " + row[0];
                int number = (int) row[degree];
                long before = -1;
                for (int flat = 0; flat < number; flat++) {
                    long code = codeOf(Script.run(name, start), name, degree, flat, sizes[degree]);
                    Script.due(name + ": flat " + flat + " comes later", code > before ? 1 : 0, 1);
                    before = code;
                }
                Script.run(name, start + "; flats(" + degree + ") = " + number + "; "
                    + "flat(" + degree + ", " + number + ", 0) = -101");
            }
        }
    }

    private static long codeOf(QuadricFlats x, String name, int degree, int flat, int size) {
        long code = 0;
        int last = -1;
        for (int place = 0; place < size; place++) {
            int point = x.flat(degree, flat, place);
            Script.due(name + ": increasing points", point > last ? 1 : 0, 1);
            Script.due(name + ": on the quadric", x.value(point), 0);
            for (int other = 0; other < place; other++) {
                Script.due(name + ": collinear", x.joined(point, x.flat(degree, flat, other)), 1);
            }
            code = code * 160 + point;
            last = point;
        }
        Script.due(name + ": index beyond the last", x.flat(degree, flat, size), -101);
        Script.due(name + ": index -1", x.flat(degree, flat, -1), -101);
        return code;
    }

    private static void typesAndDiscriminants() {
        for (Object[] row : NONSINGULAR) {
            String text = "text " + row[0] + "; form(); ";
            says("The index is the greatest degree of which there are flats", text + "about(7) = " + row[5] + "; flats("
                + row[5] + ") = " + row[(int) row[5]] + "; count(2) = " + row[(int) row[5]]
                + ((int) row[5] < 3 ? "; flats(" + ((int) row[5] + 1) + ") = 0" : ""));
            says("The type: 0 if N is odd, 1 if the index is N / 2, and 2 in all other cases", text + "about(5) = "
                + row[4]);
        }
        inEachSpace(6, "The type of a form is 3 if it is not nonsingular", "about(5) = 3; about(7) = -1; about(6) = 0; "
            + "put(0, 0, 1) = 0; about(5) = 3; about(7) = -1; about(6) = 0");
        says("The discriminant is 0 if P is 2", GRID2 + "about(6) = 0; " + KLEIN + "about(6) = 0; " + ZERO + "about(6) = 0");
        // diagonal forms 1, 1, k have D = 8 * k
        says("it is 0 if D is 0, 1 if D is the square of a number, and -1 otherwise; P = 3",
            "text 3:100/10/0; form() = 13; about(6) = 0; put(2, 2, 1) = 0; about(6) = -1; put(2, 2, 2) = 1; about(6) = 1");
        says("it is 0 if D is 0, 1 if D is the square of a number, and -1 otherwise; P = 5",
            "text 5:100/10/0; form() = 31; about(6) = 0; put(2, 2, 1) = 0; about(6) = -1; put(2, 2, 2) = 1; about(6) = 1; "
            + "put(2, 2, 3) = 2; about(6) = 1; put(2, 2, 4) = 3; about(6) = -1");
        says("D with 2 * c(i, i) in the diagonal and c(i, j) elsewhere",
            "text 5:010/00/1; form() = 31; about(6) = -1; put(2, 2, 4) = 1; about(6) = -1; put(2, 2, 2) = 4; about(6) = 1; "
            + "text 3:010/00/1; form() = 13; about(6) = 1; put(0, 0, 1) = 0; about(6) = 1; put(1, 1, 1) = 0; about(6) = 0");
    }

    private static void ovoidsAndSpreads() {
        for (Object[] row : NONSINGULAR) {
            String text = "text " + row[0] + "; form(); ";
            boolean hasOvoid = (int) row[6] > 0;
            boolean hasSpread = (int) row[7] > 0;
            says("An ovoid is a set of points of which each maximal flat contains exactly one", text + "ways(0) = " + row[6]
                + "; finish(0) = " + (hasOvoid ? row[8] + "; left(0) = 0; finish(0) = 0; ways(0) = 1" : "-1; count(3) = 0"));
            says("A spread is a set of maximal flats such that each point is in exactly one", text + "ways(1) = " + row[7]
                + "; finish(1) = " + (hasSpread ? row[9] + "; left(1) = 0; finish(1) = 0; ways(1) = 1" : "-1; "
                + "count(4) = 0"));
        }
        String lists = GRID2 + "image() = 15; pick(0) = 1; gather(0) = 1; ";
        String[] changes = {"text 2:010/00/1; form() = 7", "put(0, 1, 1) = 1", "put(0, 0, 1) = 0", "swap(0, 1) = 9",
            "plus(0, 1, 0) = 9", "plus(0, 1, 1) = 9", "scale(0, 1) = 9", "times(1) = 0", "restore() = 15"};
        for (String change : changes) {
            says("Both lists are emptied by " + change, lists + change + "; count(3) = 0; count(4) = 0; drop(0) = -103; "
                + "drop(1) = -103; chosen(0, 0) = -101; chosen(1, 0) = -101");
        }
        String[] refused = {"form() = -103", "put(4, 0, 0) = -101", "put(0, 0, 2) = -102", "swap(1, 1) = -101",
            "plus(1, 1, 0) = -101", "plus(0, 1, 2) = -102", "scale(4, 1) = -101", "scale(0, 0) = -102", "times(0) = -102"};
        for (String call : refused) {
            says("if they succeed: " + call, lists + call + "; count(3) = 1; count(4) = 1; chosen(0, 0) = 0; "
                + "chosen(1, 0) = 0");
        }
        says("if they succeed: restore()", GRID2 + "pick(0) = 1; gather(0) = 1; restore() = -103; count(3) = 1; "
            + "count(4) = 1");
        says("Of several ovoids the first one contains the lowest point that is not in both",
            GRID2 + "finish(0) = 3; chosen(0, 0) = 0; chosen(0, 1) = 1; chosen(0, 2) = 14; drop(0) = 14; drop(0) = 1; "
            + "drop(0) = 0; pick(8) = 1; ways(0) = 2; finish(0) = 2; chosen(0, 1) = 1; chosen(0, 2) = 4");
        says("Of several spreads the first one contains the lowest maximal flat that is not in both",
            GRID2 + "finish(1) = 3; chosen(1, 0) = 0; chosen(1, 1) = 3; chosen(1, 2) = 5");
    }

    /** The first one has each entry that, with the lower ones that it has, some ovoid or spread contains. */
    private static void firstOnes() {
        for (Object[] row : NONSINGULAR) {
            String start = "text " + row[0] + "; form(); ";
            for (int of = 0; of <= 1; of++) {
                if ((int) row[6 + of] > 0) {
                    firstOne(start, of);
                    firstOne(start + (of == 0 ? "pick(" : "gather(") + lastEntry(start, of) + "); ", of);
                }
            }
        }
    }

    private static int lastEntry(String start, int of) {
        QuadricFlats x = Script.run("the last entry", start);
        return of == 0 ? x.flat(1, x.flats(1) - 1, 0) : x.count(2) - 1;
    }

    private static void firstOne(String start, int of) {
        String append = of == 0 ? "pick(" : "gather(";
        StringBuilder calls = new StringBuilder(start);
        StringBuilder due = new StringBuilder();
        int before = Script.run("the first one", start).count(3 + of);
        int length = before;
        for (int entry = 0; entry <= lastEntry(start, of); entry++) {
            QuadricFlats x = Script.run("the first one", calls.toString());
            if ((of == 0 ? x.pick(entry) : x.gather(entry)) > 0 && x.ways(of) > 0) {
                calls.append(append).append(entry).append("); ");
                due.append("; chosen(").append(of).append(", ").append(length).append(") = ").append(entry);
                length++;
            }
        }
        says("Of several ovoids (spreads) the first one", start + "finish(" + of + ") = " + (length - before) + due
            + "; chosen(" + of + ", " + length + ") = -101");
    }

    private static void pageAndImage() {
        says("The page is a text buffer of at most 28 characters", "text 2:010000/00000/0100/000/01/; count(5) = 27; "
            + "letter(48) = 28; letter(48) = -104; count(5) = 28; form() = 63; count(5) = 0; letter(48) = 1");
        says("The image: there is at most one, the latest", CONIC + "image() = 7; " + GRID2 + "image() = 15; "
            + ZERO + "restore() = 15; about(0) = 2; coefficient(0, 1) = 1; restore() = 15");
        String[] changes = {"text 2:010/00/1; form() = 7", "put(0, 0, 1) = 0", "swap(0, 2) = 9", "plus(0, 1, 1) = 9",
            "scale(0, 1) = 9", "times(1) = 0", "blank() = 0", "text 2:; form() = -103", "restore() = 15"};
        QuadricFlats plain = Script.run("the image stays", GRID2 + "image() = 15; restore() = 15");
        for (String change : changes) {
            QuadricFlats x = Script.run("the image stays", GRID2 + "image() = 15; " + change + "; restore() = 15; blank()");
            Script.due("the image stays: the type after " + change, x.about(5), 1);
            for (int i = 0; i < 4; i++) {
                for (int j = 0; j < 4; j++) {
                    Script.due("the image stays: " + change, x.coefficient(i, j), plain.coefficient(i, j));
                }
            }
        }
    }

    // ---- the promises

    private static void newObject() {
        holds(1, "without a form", "about(0) = -103; about(7) = -103; flats(1) = -103; times(1) = -103; image() = -103; "
            + "value(0) = -101; swap(0, 1) = -101; left(0) = -103; finish(0) = -103; ways(1) = -103; drawn(1, 0, 0) = -103");
        holds(1, "without an image", "restore() = -103; like() = -103; " + GRID2 + "restore() = -103; like() = -103");
        holds(1, "with an empty page", "count(5) = 0; fault() = 0; blank() = 0; form() = -103; letter(50) = 1");
        holds(1, "and empty lists", "count(3) = 0; count(4) = 0; drop(0) = -103; drop(1) = -103; chosen(0, 0) = -101; "
            + "chosen(1, 0) = -101; " + GRID2 + "count(3) = 0; count(4) = 0; left(0) = 6; left(1) = 9");
        holds(1, "counts of a new object", "count(0) = 0; count(1) = 0; count(2) = 0; count(6) = 0; count(7) = 0; "
            + "count(8) = 0");
    }

    private static void texts() {
        holds(2, "code: 32 to 126", "letter(32) = 1; letter(31) = -102; letter(126) = 2; letter(127) = -102; count(5) = 2");
        holds(2, "code: far outside", "letter(0) = -102; letter(-1) = -102; letter(255) = -102; letter(65586) = -102; "
            + "letter(-2147483648) = -102; letter(2147483647) = -102; count(5) = 0");
        holds(2, "Returns the number of characters of the page; FULL if the page has 28 characters",
            "letter(48); ".repeat(26) + "letter(48) = 27; letter(48) = 28; letter(48) = -104; letter(126) = -104; "
            + "count(5) = 28");
        holds(2, "FULL no more after blank()", "letter(48); ".repeat(28) + "letter(48) = -104; blank() = 28; "
            + "letter(48) = 1");
        holds(3, "Returns the number of characters that it had", "blank() = 0; letter(48) = 1; blank() = 1; blank() = 0; "
            + "letter(48); ".repeat(28) + "blank() = 28; count(5) = 0");
        holds(4, "its place, counted from 0", "letter(48) = 1; fault() = 0; blank() = 1; text 2:2; fault() = 2; "
            + "count(5) = 3");
        holds(4, "the number of characters if there is no such character: an empty page", "fault() = 0; blank() = 0");
        holds(4, "whether the page is the text of a form", "text 2:010/00/1; fault() = 10; form() = 7; fault() = 0");
        holds(4, "or ends too early", "text 2:010/00/; fault() = 9; form() = -103; text 1; fault() = 10");
        holds(4, "a full page", "text 2:010000/00000/0100/000/01/0; fault() = 28; form() = 63; "
            + "text 2:010000/00000/0100/000/01/2; fault() = 27; form() = -103; fault() = 27");
        holds(5, "The page becomes empty", CONIC + "count(5) = 0; form() = -103; fault() = 0; about(1) = 3");
        holds(5, "in place of the present one", KLEIN + "flats(3) = 30; " + CONIC + "about(1) = 3; "
            + "coefficient(3, 3) = -101; "
            + "point(7, 0) = -101; count(0) = 7; flats(1) = 3; flats(3) = 0");
        holds(5, "STATE if the page is not the text of a form (then nothing changes)",
            GRID2 + "pick(0) = 1; text 2:010/00; form() = -103; count(5) = 8; count(3) = 1; about(1) = 4; count(6) = 1; "
            + "text /1/; form() = -103; fault() = 10; count(5) = 11; about(1) = 4");
        inEachSpace(5, "Returns the number of points", "about(0) = {P}; about(1) = {N}; about(2) = {points}; "
            + "about(3) = {points}; about(4) = {points}; count(6) = 1");
    }

    private static void properties() {
        holds(6, "OUTSIDE if what is not 0 to 7", PARABOLIC3 + "about(-1) = -102; about(0) = 3; about(7) = 2; "
            + "about(8) = -102; "
            + "about(2147483647) = -102; about(-2147483648) = -102");
        holds(6, "for what 7 NONE if the form is not nonsingular", ZERO + "about(7) = -1; " + CONE5 + "about(7) = -1; "
            + "put(3, 3, 1) = 0; about(7) = 2; put(3, 3, 2) = 1; about(7) = 1");
        holds(6, "STATE if there is no form", "about(0) = -103; about(7) = -103; text 2:010/00/; about(0) = -103");
        inEachSpace(7, "UNKNOWN if there is no such variable", "put({N-1}, {N-1}, 1) = 0; coefficient({N-1}, {N-1}) = 1; "
            + "coefficient({N}, 0) = -101; coefficient(0, {N}) = -101; coefficient(-1, 0) = -101; coefficient(0, -1) = -101; "
            + "coefficient(0, 0) = 0; coefficient(2147483647, 0) = -101; coefficient(0, -2147483648) = -101");
        holds(7, "UNKNOWN if there is no form", "coefficient(0, 0) = -101; text 2:111/11/1; coefficient(0, 0) = -101");
    }

    private static void pointsOfTheForm() {
        String squares = "put(0, 0, 1) = 0; put({N-1}, {N-1}, 1) = 0; ";
        inEachSpace(8, "UNKNOWN if there is no such point", "point(0, {N-1}) = 1; point(0, 0) = 0; point({last}, 0) = 1; "
            + "point({last}, {N-1}) = {P-1}; point({points}, 0) = -101; point(-1, 0) = -101; point(2147483647, 0) = -101");
        inEachSpace(8, "UNKNOWN if there is no such variable", "point(0, -1) = -101; point(0, {N}) = -101; "
            + "point({last}, {N}) = -101; point({last}, -1) = -101; point(0, 2147483647) = -101");
        inEachSpace(9, "UNKNOWN if there is no such point", squares + "value(0) = 1; value({last}) = {1+1}; "
            + "value({points}) = -101; value(-1) = -101; value(2147483647) = -101");
        inEachSpace(10, "UNKNOWN if there is no such point", squares + "polar(0, {last}) = {P-2}; polar({last}, 0) = {P-2}; "
            + "polar(0, {points}) = -101; polar({points}, 0) = -101; polar(-1, 0) = -101; polar(0, -1) = -101");
        inEachSpace(10, "a point, the same or another one", squares + "polar(0, 0) = {1+1}");
        inEachSpace(11, "UNKNOWN if there is no such point", "joined(0, {last}) = 1; joined({last}, 0) = 1; "
            + "joined(0, {points}) = -101; joined({points}, 0) = -101; joined(-1, 0) = -101; joined(0, -1) = -101; "
            + "joined({points}, {points}) = -101; joined(-1, -1) = -101");
        inEachSpace(11, "0 if not (also if both are the same)", "joined(0, 0) = 0; joined({last}, {last}) = 0");
        holds(8, "UNKNOWN if there is no form", "point(0, 0) = -101; text 2:111/11/1; point(0, 0) = -101");
        holds(9, "UNKNOWN if there is no form", "value(0) = -101; text 2:111/11/1; value(0) = -101");
        holds(10, "UNKNOWN if there is no form", "polar(0, 0) = -101; text 2:111/11/1; polar(0, 0) = -101");
        holds(11, "UNKNOWN if there is no form", "joined(0, 0) = -101; text 2:111/11/1; joined(0, 1) = -101");
    }

    private static void sections() {
        inEachSpace(12, "UNKNOWN if there is no such point h", "section(0, 0) = {section}; section({last}, 0) = {section}; "
            + "section({points}, 0) = -101; section(-1, 0) = -101; section({points}, 1) = -101; section(-1, 1) = -101");
        inEachSpace(12, "tangent at a point that is not singular: NONE", "section(0, 1) = -1; section({last}, 1) = -1");
        holds(12, "UNKNOWN if there is no form", "section(0, 0) = -101; section(0, 1) = -101");
        holds(12, "OUTSIDE if what is not 0 or 1", GRID2 + "section(14, -1) = -102; section(14, 0) = 5; "
            + "section(14, 1) = 14; "
            + "section(14, 2) = -102; section(14, 2147483647) = -102; section(2, 0) = 3; section(2, 1) = -1");
        holds(12, "for what 1 NONE if there is no such point", "text 3:100/10/2; form() = 13; section(0, 1) = -1; "
            + "section(1, 1) = -1; section(2, 1) = 3; section(3, 1) = 2; section(4, 1) = -1; section(5, 1) = 6");
        holds(12, "the lowest point at which it is tangent", "text 2:010/00/0; form() = 7; about(4) = 1; section(3, 1) = 1; "
            + "joined(1, 2) = 1; section(1, 1) = 3; section(0, 1) = -1");
        holds(12, "exactly those points whose polar value is 0, also with a nucleus", CONIC + "section(0, 1) = -1; "
            + "section(1, 1) = 3; section(3, 1) = 1; section(5, 1) = 6; section(5, 0) = 1");
        holds(12, "tangent at the lowest point of all, and at the highest", GRID2 + "section(1, 1) = 0; section(1, 0) = 5; "
            + "section(14, 1) = 14; section(14, 0) = 5");
    }

    private static void flats() {
        holds(13, "degree: 1 to 3", KLEIN + "flats(0) = -102; flats(1) = 35; flats(3) = 30; flats(4) = -102; "
            + "flats(-1) = -102; "
            + "flats(2147483647) = -102");
        holds(13, "STATE if there is no nonsingular form: none at all", "flats(1) = -103; flats(3) = -103; flats(0) = -102");
        holds(13, "STATE if there is no nonsingular form: a singular one", CONE5 + "flats(1) = -103; flats(3) = -103; "
            + "flats(4) = -102");
        holds(13, "a degree of which there are none", CONIC + "flats(2) = 0; flats(3) = 0; " + GRID5 + "flats(2) = 12; "
            + "flats(3) = 0");
        holds(14, "degree: 1 to 3", KLEIN + "flat(0, 0, 0) = -102; flat(1, 0, 0) = 0; flat(3, 0, 0) = 0; "
            + "flat(4, 0, 0) = -102");
        holds(14, "STATE if there is no nonsingular form", "flat(1, 0, 0) = -103; " + CONE5 + "flat(1, 0, 0) = -103");
        holds(14, "UNKNOWN if there is no such flat", GRID2 + "flat(1, 8, 0) = 14; flat(1, 9, 0) = -101; "
            + "flat(1, -1, 0) = -101; "
            + "flat(2, 5, 0) = 5; flat(2, 6, 0) = -101; flat(2, -1, 0) = -101; flat(3, 0, 0) = -101; "
            + "flat(2, 2147483647, 0) = -101");
        holds(14, "UNKNOWN if there is no such index", GRID2 + "flat(1, 0, 0) = 0; flat(1, 0, 1) = -101; "
            + "flat(1, 0, -1) = -101; "
            + "flat(2, 0, 2) = 4; flat(2, 0, 3) = -101; flat(2, 0, -1) = -101; flat(2, 0, 2147483647) = -101");
    }

    private static void near() {
        holds(15, "STATE if there is no nonsingular form", "near(0, 0, 0) = -103; " + CONE5 + "near(0, 0, 0) = -103");
        holds(15, "UNKNOWN if there is no such point", GRID2 + "near(14, 0, 0) = 1; near(15, 0, 0) = -101; "
            + "near(-1, 0, 0) = -101");
        holds(15, "UNKNOWN if it is not on the quadric", GRID2 + "value(2) = 1; near(2, 0, 0) = -101; near(2, 0, 1) = -101");
        holds(15, "UNKNOWN if there is no such maximal flat", GRID2 + "near(0, 5, 0) = 1; near(0, 6, 0) = -101; "
            + "near(0, -1, 0) = -101");
        holds(15, "OUTSIDE if what is not 0 or 1", GRID2 + "near(0, 0, -1) = -102; near(0, 0, 0) = 3; "
            + "near(0, 0, 1) = 0; near(0, 0, 2) = -102");
        holds(15, "for what 1 NONE if there is none", CONIC + "near(1, 1, 0) = 0; near(1, 1, 1) = -1; near(6, 0, 1) = -1");
        holds(15, "equal to the point or collinear with it", CONIC + "near(1, 0, 0) = 1; near(1, 0, 1) = 1; " + GRID2
            + "flat(2, 0, 0) = 0; flat(2, 0, 1) = 3; near(3, 0, 0) = 3; near(3, 0, 1) = 0; near(14, 0, 0) = 1; "
            + "near(14, 0, 1) = 4");
        holds(15, "maximal flats are planes here", KLEIN + "near(0, 29, 0) = 3; near(61, 29, 0) = 3; near(0, 30, 0) = -101");
    }

    private static void pickAndGather() {
        holds(16, "STATE if there is no nonsingular form", "pick(0) = -103; " + CONE5 + "pick(0) = -103; count(3) = 0");
        holds(16, "UNKNOWN if there is no such point", GRID2 + "pick(-1) = -101; pick(15) = -101; pick(14) = 1; "
            + "pick(2147483647) = -101");
        holds(16, "UNKNOWN if it is not on the quadric", GRID2 + "pick(2) = -101; pick(13) = -101; count(3) = 0");
        holds(16, "STATE if it is picked already", CONIC + "pick(1) = 1; pick(1) = -103; pick(3) = 2; pick(1) = -103; "
            + "pick(3) = -103; count(3) = 2");
        holds(16, "STATE if a maximal flat contains it and a picked point", GRID2 + "pick(0) = 1; pick(3) = -103; "
            + "pick(7) = -103; "
            + "pick(1) = 2; count(3) = 2; drop(0) = 1; drop(0) = 0; pick(3) = 1");
        holds(17, "STATE if there is no nonsingular form", "gather(0) = -103; " + CONE5 + "gather(0) = -103; count(4) = 0");
        holds(17, "UNKNOWN if there is no such maximal flat", GRID2 + "gather(-1) = -101; gather(6) = -101; gather(5) = 1; "
            + KLEIN + "gather(30) = -101; gather(29) = 1; " + CONIC + "gather(3) = -101; gather(2) = 1");
        holds(17, "STATE if it is gathered already", CONIC + "gather(2) = 1; gather(2) = -103; gather(0) = 2; "
            + "gather(2) = -103; count(4) = 2");
        holds(17, "STATE if it has a point in common with a gathered one", GRID2 + "gather(0) = 1; gather(1) = -103; "
            + "gather(3) = 2; "
            + "gather(2) = -103; gather(5) = 3; count(4) = 3; drop(1) = 5; drop(1) = 3; drop(1) = 0; gather(1) = 1");
        holds(17, "the two lists do not hinder each other", CONIC + "pick(1) = 1; gather(0) = 1; pick(3) = 2; "
            + "gather(1) = 2; "
            + "pick(6) = 3; gather(2) = 3; pick(1) = -103; gather(0) = -103");
    }

    private static void dropAndChosen() {
        String lists = GRID2 + "pick(14) = 1; pick(0) = 2; gather(5) = 1; gather(0) = 2; ";
        holds(18, "OUTSIDE if of is not 0 or 1", lists + "drop(-1) = -102; drop(2) = -102; count(3) = 2; count(4) = 2; "
            + "drop(2147483647) = -102");
        holds(18, "Removes the last entry", lists + "drop(0) = 0; count(3) = 1; count(4) = 2; drop(1) = 0; "
            + "count(4) = 1; chosen(0, 0) = 14; chosen(1, 0) = 5");
        holds(18, "STATE if the list is empty", lists + "drop(0) = 0; drop(0) = 14; drop(0) = -103; count(3) = 0; "
            + "drop(1) = 0; drop(1) = 5; drop(1) = -103; count(4) = 0");
        holds(18, "STATE if the list is empty: without a form", "drop(0) = -103; drop(1) = -103");
        holds(19, "OUTSIDE if of is not 0 or 1", lists + "chosen(-1, 0) = -102; chosen(2, 0) = -102; "
            + "chosen(0, 0) = 14; chosen(1, 0) = 5");
        holds(19, "UNKNOWN if there is no such entry", lists + "chosen(0, 1) = 0; chosen(0, 2) = -101; "
            + "chosen(0, -1) = -101; chosen(1, 1) = 0; "
            + "chosen(1, 2) = -101; chosen(1, -1) = -101; chosen(0, 2147483647) = -101; chosen(1, -2147483648) = -101; "
            + "drop(0) = 0; chosen(0, 1) = -101");
        holds(19, "UNKNOWN in an empty list", "chosen(0, 0) = -101; "
            + "chosen(1, 0) = -101; " + GRID2 + "chosen(0, 0) = -101; chosen(1, 0) = -101");
    }

    private static void left() {
        holds(20, "OUTSIDE if of is not 0 or 1", GRID2 + "left(-1) = -102; left(0) = 6; left(1) = 9; left(2) = -102");
        holds(20, "STATE if there is no nonsingular form", "left(0) = -103; "
            + "left(1) = -103; " + CONE5 + "left(0) = -103; left(1) = -103");
        holds(20, "all are missing with empty lists", KLEIN + "left(0) = 30; left(1) = 35; " + CONIC + "left(0) = 3; "
            + "left(1) = 3");
        holds(20, "none is missing with full lists", GRID2 + "finish(0) = 3; finish(1) = 3; left(0) = 0; left(1) = 0; "
            + "drop(0) = 14; left(0) = 2; "
            + "drop(1) = 5; left(1) = 3; left(0) = 2");
    }

    private static void finish() {
        holds(21, "OUTSIDE if of is not 0 or 1", GRID2 + "finish(-1) = -102; finish(2) = -102; count(7) = 0; "
            + "finish(0) = 3; finish(1) = 3");
        holds(21, "STATE if there is no nonsingular form", "finish(0) = -103; " + CONE5 + "finish(1) = -103; count(7) = 0");
        holds(21, "Returns the number of entries that are appended: 0 to a full list", GRID2 + "finish(0) = 3; "
            + "finish(0) = 0; count(3) = 3; finish(1) = 3; finish(1) = 0; count(4) = 3");
        holds(21, "NONE if there is no such ovoid (then nothing is appended)",
            "text 2:010000/00000/0100/000/11/1; form() = 63; finish(0) = -1; count(3) = 0; pick(0) = -101; "
            + "pick(3) = 1; finish(0) = -1; count(3) = 1; chosen(0, 0) = 3; count(7) = 2");
        holds(21, "NONE if there is no such spread (then nothing is appended)", KLEIN + "finish(1) = -1; count(4) = 0; "
            + "gather(7) = 1; finish(1) = -1; count(4) = 1; chosen(1, 0) = 7");
        holds(21, "NONE: the picked points are in no ovoid, though there are ovoids", PARABOLIC2 + "pick(1) = 1; "
            + "pick(3) = 2; ways(0) = 1; "
            + "pick(6) = 3; ways(0) = 0; finish(0) = -1; count(3) = 3; chosen(0, 2) = 6; left(0) = 6; drop(0) = 6; "
            + "finish(0) = 3");
        holds(21, "NONE: the gathered flats are in no spread, though there are spreads", PARABOLIC2 + "gather(0) = 1; "
            + "gather(4) = 2; "
            + "ways(1) = 1; gather(11) = 3; ways(1) = 0; finish(1) = -1; count(4) = 3; left(1) = 6; drop(1) = 11; "
            + "finish(1) = 3");
        holds(21, "appends what is not in the list yet, in increasing order", GRID5 + "pick(155) = 1; pick(0) = 2; "
            + "finish(0) = 4; chosen(0, 0) = 155; chosen(0, 1) = 0; chosen(0, 2) = 1; "
            + "chosen(0, 3) = 68; chosen(0, 4) = 74; chosen(0, 5) = 137; chosen(0, 6) = -101");
        holds(21, "the longest list", "text 5:0100/000/10/2; form() = 156; finish(0) = 26; chosen(0, 25) = 151; "
            + "chosen(0, 26) = -101; finish(1) = 26; chosen(1, 25) = 25; left(0) = 0");
    }

    private static void finishLimit() {
        holds(21, "STATE if called 20 times: the 20th is answered", GRID2 + "finish(0) = 3; " + "finish(0) = 0; ".repeat(18)
            + "count(7) = 19; finish(1) = 3; count(7) = 20; finish(0) = -103; finish(1) = -103; count(7) = 20; "
            + "count(4) = 3");
        holds(21, "with another result than an error code: these don't count", "finish(0) = -103; ".repeat(21) + GRID2
            + "finish(2) = -102; ".repeat(21) + CONE5 + "finish(0) = -103; ".repeat(21) + GRID2 + "count(7) = 0; "
            + "finish(0) = 3; "
            + "finish(0) = 0; ".repeat(19) + "finish(0) = -103; count(7) = 20");
        holds(21, "NONE is not an error code: it counts", KLEIN + "finish(1) = -1; ".repeat(20) + "count(7) = 20; "
            + "finish(1) = -103; finish(0) = -103; count(3) = 0");
        holds(21, "since the object was created: a new form does not help", CONIC + "image() = 7; "
            + "finish(0) = 3; " + "finish(0) = 0; ".repeat(19)
            + GRID2 + "finish(0) = -103; restore() = 7; finish(0) = -103; times(1) = 0; finish(1) = -103; "
            + "count(7) = 20; count(3) = 0");
        holds(21, "this method: ways() does not count", GRID2 + "ways(0) = 6; ".repeat(12) + "finish(0) = 3; "
            + "finish(0) = 0; ".repeat(19) + "finish(0) = -103; count(7) = 20; count(8) = 12");
    }

    private static void ways() {
        holds(22, "OUTSIDE if of is not 0 or 1", GRID2 + "ways(-1) = -102; ways(2) = -102; count(8) = 0; ways(0) = 6; "
            + "ways(1) = 2; count(8) = 2");
        holds(22, "STATE if there is no nonsingular form", "ways(0) = -103; " + CONE5 + "ways(1) = -103; count(8) = 0");
        holds(22, "none, and it counts", KLEIN + "ways(1) = 0; count(8) = 1; gather(0) = 1; ways(1) = 0; count(8) = 2");
        holds(22, "that contain all picked points: of a full list one", GRID2 + "pick(0) = 1; ways(0) = 2; "
            + "pick(1) = 2; ways(0) = 1; pick(14) = 3; ways(0) = 1; gather(0) = 1; ways(1) = 1; finish(1) = 2; ways(1) = 1");
        holds(22, "the most there are", GRID5 + "ways(0) = 720; ways(1) = 2; count(3) = 0; count(4) = 0");
    }

    private static void waysLimit() {
        holds(22, "STATE if called 12 times: the 12th is answered", GRID2 + "ways(0) = 6; ".repeat(11)
            + "count(8) = 11; ways(1) = 2; count(8) = 12; ways(0) = -103; ways(1) = -103; count(8) = 12");
        holds(22, "with another result than an error code: these don't count", "ways(0) = -103; ".repeat(13) + GRID2
            + "ways(2) = -102; ".repeat(13) + CONE5 + "ways(0) = -103; ".repeat(13) + GRID2 + "count(8) = 0; "
            + "ways(1) = 2; ".repeat(12) + "ways(1) = -103; count(8) = 12");
        holds(22, "since the object was created: a new form does not help", CONIC + "image() = 7; "
            + "ways(0) = 1; ".repeat(12)
            + GRID2 + "ways(0) = -103; restore() = 7; ways(0) = -103; times(1) = 0; ways(1) = -103; count(8) = 12");
        holds(22, "this method: finish() does not count", CONIC + "finish(0) = 3; " + "finish(0) = 0; ".repeat(19)
            + "finish(0) = -103; "
            + "ways(0) = 1; ".repeat(12) + "ways(0) = -103; count(7) = 20; count(8) = 12");
    }

    /** "Reads the page as the form, in place of the present one": nothing of the present one is left. */
    private static void inPlaceOfAnother() {
        for (Object[] one : NONSINGULAR) {
            for (Object[] other : NONSINGULAR) {
                String calls = "text " + one[0] + "; form(); image(); finish(0); finish(1); text " + other[0] + "; form(); "
                    + "flats(1) = " + other[1] + "; flats(2) = " + other[2] + "; flats(3) = " + other[3] + "; ways(0) = "
                    + other[6] + "; ways(1) = " + other[7] + "; count(3) = 0; count(4) = 0; ";
                sameDigest(calls);
                sameDigest(calls + "restore(); flats(1) = " + one[1] + "; flats(2) = " + one[2] + "; ways(0) = " + one[6]);
            }
        }
    }

    private static void sameDigest(String calls) {
        QuadricFlats x = new QuadricFlats();
        PlainModel model = new PlainModel();
        Script.run("program: " + calls, x, calls);
        Script.run("model: " + calls, model, calls);
        Script.due("the checksum after " + calls, x.digest(), model.digest());
    }

    private static void put() {
        inEachSpace(23, "v: 0 to P - 1", "put({N-1}, 0, -1) = -102; put({N-1}, 0, {P}) = -102; put({N-1}, 0, 0) = 0; "
            + "put({N-1}, 0, {P-1}) = 0; coefficient(0, {N-1}) = {P-1}; put({N-1}, 0, 0) = {P-1}; about(4) = {points}");
        inEachSpace(23, "UNKNOWN if there is no such variable", "put(-1, 0, 1) = -101; put(0, -1, 1) = -101; "
            + "put({N}, 0, 1) = -101; put(0, {N}, 1) = -101; about(4) = {points}");
        inEachSpace(23, "a variable, the same or another one", "put({N-1}, {N-1}, 1) = 0; value(0) = 1; put(0, 0, 1) = 0; "
            + "put(0, 0, 0) = 1; put({N-1}, {N-1}, 0) = 1; value(0) = 0");
        holds(23, "UNKNOWN if there is no form", "put(0, 0, 0) = -101; put(0, 0, 9) = -101");
    }

    private static void swap() {
        inEachSpace(24, "UNKNOWN if there is no such variable", "put(0, 0, 1) = 0; swap(0, {N}) = -101; swap({N}, 0) = -101; "
            + "swap(-1, 0) = -101; swap(0, -1) = -101; coefficient(0, 0) = 1; swap(0, {N-1}) = {section}; "
            + "coefficient(0, 0) = 0; coefficient({N-1}, {N-1}) = 1; swap({N-1}, 0) = {section}; coefficient(0, 0) = 1");
        inEachSpace(24, "UNKNOWN if both are the same", "swap(0, 0) = -101; swap({N-1}, {N-1}) = -101");
        holds(24, "UNKNOWN if there is no form", "swap(0, 1) = -101; swap(0, 0) = -101");
        holds(24, "Returns the number of points on the quadric then", CONIC + "about(3) = 3; swap(0, 2) = 3; value(0) = 0; "
            + "value(3) = 1");
    }

    private static void plus() {
        // the square of x(0) becomes that of x(0) + c * x(N - 1)
        inEachSpace(25, "c: 0 to P - 1", "put(0, 0, 1) = 0; plus(0, {N-1}, -1) = -102; plus(0, {N-1}, {P}) = -102; "
            + "plus(0, {N-1}, 0) = {section}; coefficient({N-1}, {N-1}) = 0; plus(0, {N-1}, {P-1}) = {section}; "
            + "coefficient(0, 0) = 1; coefficient({N-1}, {N-1}) = 1; coefficient(0, {N-1}) = {P-2}; about(3) = {section}");
        inEachSpace(25, "UNKNOWN if there is no such variable", "plus(-1, 0, 1) = -101; plus(0, -1, 1) = -101; "
            + "plus({N}, 0, 1) = -101; plus(0, {N}, 1) = -101; plus({N-1}, 0, 1) = {points}");
        inEachSpace(25, "UNKNOWN if both are the same", "plus(0, 0, 0) = -101; plus({N-1}, {N-1}, 1) = -101");
        holds(25, "UNKNOWN if there is no form", "plus(0, 1, 0) = -101; plus(0, 0, 0) = -101");
        holds(25, "x(i) + c * x(j) in place of x(i), not the other way round", GRID2 + "plus(0, 2, 1) = 9; "
            + "coefficient(1, 2) = 1; coefficient(0, 3) = 0; plus(0, 2, 1) = 9; coefficient(1, 2) = 0; plus(2, 0, 1) = 9; "
            + "coefficient(0, 3) = 1; coefficient(1, 2) = 0");
    }

    private static void scaleAndTimes() {
        String form = "put({N-1}, {N-1}, 1) = 0; put(0, {N-1}, 1) = 0; about(3) = {two sections}; ";
        inEachSpace(26, "c: 1 to P - 1", form + "scale({N-1}, 0) = -102; scale({N-1}, {P}) = -102; scale({N-1}, -1) = -102; "
            + "scale({N-1}, 1) = {two sections}; scale({N-1}, {P-1}) = {two sections}; coefficient(0, {N-1}) = {P-1}; "
            + "coefficient({N-1}, {N-1}) = 1");
        inEachSpace(26, "UNKNOWN if there is no such variable", form + "scale(-1, 1) = -101; scale({N}, 1) = -101; "
            + "scale(0, 1) = {two sections}; scale({N}, 0) = -101");
        inEachSpace(27, "c: 1 to P - 1", form + "times(0) = -102; times({P}) = -102; times(-1) = -102; times(1) = 0; "
            + "times({P-1}) = 0; coefficient(0, {N-1}) = {P-1}; coefficient({N-1}, {N-1}) = {P-1}; about(3) = {two sections}");
        holds(26, "UNKNOWN if there is no form", "scale(0, 1) = -101; scale(0, 0) = -101");
        holds(27, "STATE if there is no form", "times(1) = -103; times(0) = -103; times(9) = -103");
        holds(27, "Returns the discriminant then: it changes if N is odd", "text 5:100/10/2; form() = 31; "
            + "times(4) = 1; times(2) = -1; times(2) = 1; times(3) = -1");
        holds(27, "Returns the discriminant then: it stays if N is even", GRID5 + "times(2) = 1; times(3) = 1; "
            + "times(4) = 1; " + CONE5 + "times(2) = 0");
        holds(27, "Returns the discriminant then: 0 if P is 2", CONIC + "times(1) = 0; times(2) = -102");
    }

    /** "the new value at a vector x is the old value at the vector that has .. in place of x(i)" */
    private static void substitutions() {
        String[] texts = {"2:101/11/0", "2:1101/011/10/1", "2:10110/1011/110/01/1", "2:110101/01101/1011/010/11/0",
            "3:121/02/2", "3:2012/112/20/1", "3:12012/2101/102/12/1", "5:134/42/3", "5:2413/341/12/4"};
        for (int k = 0; k < texts.length; k++) {
            int prime = SPACES[k][0];
            for (int i = 0; i < SPACES[k][1]; i++) {
                for (int c = 1; c < prime; c++) {
                    substitution(texts[k], SPACES[k], "scale(" + i + ", " + c + ")", i, i, c);
                }
                for (int j = 0; j < SPACES[k][1]; j++) {
                    for (int c = 0; c < prime && j != i; c++) {
                        substitution(texts[k], SPACES[k], "plus(" + i + ", " + j + ", " + c + ")", i, j, c);
                    }
                    if (j != i) {
                        substitution(texts[k], SPACES[k], "swap(" + i + ", " + j + ")", i, j, -1);
                    }
                }
            }
        }
    }

    private static void substitution(String text, int[] space, String call, int i, int j, int c) {
        String start = "text " + text + "; form() = " + space[2] + "; ";
        int[] old = coefficients(Script.run("substitution", start), space[1]);
        QuadricFlats x = Script.run("substitution", start + call);
        int stride = Math.max(1, space[2] * space[1] / 300);
        for (int point = 0; point < space[2]; point += stride) {
            int[] vector = new int[space[1]];
            for (int k = 0; k < space[1]; k++) {
                vector[k] = x.point(point, k);
            }
            substitute(vector, i, j, c);
            Script.due("the value at " + point + " of " + text + " after " + call, x.value(point), valueAt(old, vector) % space[0]);
        }
    }

    private static int[] coefficients(QuadricFlats x, int n) {
        int[] result = new int[n * n];
        for (int i = 0; i < n; i++) {
            for (int j = i; j < n; j++) {
                result[i * n + j] = x.coefficient(i, j);
            }
        }
        return result;
    }

    /** The factor -1 stands for an exchange. */
    private static void substitute(int[] vector, int i, int j, int c) {
        int was = vector[i];
        if (c < 0) {
            vector[i] = vector[j];
            vector[j] = was;
        } else {
            vector[i] = i == j ? c * was : was + c * vector[j];
        }
    }

    private static int valueAt(int[] coefficients, int[] vector) {
        int sum = 0;
        for (int i = 0; i < vector.length; i++) {
            for (int j = i; j < vector.length; j++) {
                sum += coefficients[i * vector.length + j] * vector[i] * vector[j];
            }
        }
        return sum;
    }

    private static void imageAndRestore() {
        holds(28, "STATE if there is no form", "image() = -103; text 2:010/00/1; image() = -103; restore() = -103; "
            + "form() = 7; image() = 7");
        holds(28, "in place of an earlier one", CONIC + "image() = 7; put(0, 0, 1) = 0; image() = 7; put(0, 0, 0) = 1; "
            + "restore() = 7; coefficient(0, 0) = 1");
        holds(28, "the lists and the page stay", GRID2 + "pick(0) = 1; gather(0) = 1; letter(50) = 1; image() = 15; "
            + "count(3) = 1; count(4) = 1; count(5) = 1");
        inEachSpace(28, "Returns the number of points", "image() = {points}; " + CONIC + "restore() = {points}; "
            + "about(0) = {P}; about(1) = {N}; about(4) = {points}; count(0) = {points}");
        holds(29, "STATE if there is no image", "restore() = -103; " + CONIC + "restore() = -103; pick(1) = 1; "
            + "restore() = -103; count(3) = 1; about(3) = 3");
        holds(29, "The image stays", CONIC + "image() = 7; restore() = 7; restore() = 7; put(0, 1, 0) = 1; "
            + "restore() = 7; coefficient(0, 1) = 1; like() = 1");
        holds(29, "a form that is restored is not read", CONIC + "image() = 7; restore() = 7; count(6) = 1");
    }

    private static void like() {
        holds(30, "STATE if there is no form or no image", "like() = -103; " + CONIC + "like() = -103; image() = 7; "
            + "like() = 1");
        holds(30, "both are nonsingular: the form is not", CONIC + "image() = 7; " + ZERO + "like() = 0");
        holds(30, "both are nonsingular: the image is not", ZERO + "image() = 7; " + CONIC + "like() = 0");
        holds(30, "both are nonsingular: neither is", ZERO + "image() = 7; like() = 0; put(0, 0, 1) = 0; like() = 0");
        holds(30, "the same P", "text 3:010/00/1; form() = 13; about(6) = 1; image() = 13; text 5:010/00/2; "
            + "form() = 31; about(6) = 1; about(5) = 0; like() = 0");
        holds(30, "the same N", CONIC + "image() = 7; text 2:01000/0000/010/00/1; form() = 31; about(5) = 0; "
            + "about(6) = 0; like() = 0");
        holds(30, "the same type", GRID2 + "image() = 15; put(2, 2, 1) = 0; put(3, 3, 1) = 0; about(5) = 2; "
            + "like() = 0; put(3, 3, 0) = 1; like() = 1");
        holds(30, "the same discriminant", "text 3:100/10/2; form() = 13; image() = 13; times(2) = -1; about(5) = 0; "
            + "like() = 0; times(2) = 1; like() = 1");
        holds(30, "equivalent, though not the same coefficients", GRID5 + "image() = 156; plus(0, 2, 3) = 36; "
            + "scale(1, 2) = 36; swap(0, 3) = 36; like() = 1");
    }

    private static void drawn() {
        String form = PARABOLIC3;
        holds(31, "times: 1 to 100", form + "drawn(0, 7, 2) = -102; drawn(1, 7, 2) = " + seedAfter(2, 7) + "; "
            + "drawn(100, 7, 2) = " + seedAfter(200, 7)
            + "; drawn(101, 7, 2) = -102; drawn(-1, 7, 2) = -102; drawn(2147483647, 7, 2) = -102");
        holds(31, "seed: 0 or more", form + "drawn(1, 0, 2) = " + seedAfter(2, 0) + "; drawn(1, -1, 2) = -102; "
            + "drawn(1, -2147483648, 2) = -102; "
            + "drawn(1, 2147483647, 2) = " + seedAfter(2, Integer.MAX_VALUE) + "; "
            + "drawn(100, 2147483647, 2) = " + seedAfter(200, Integer.MAX_VALUE));
        holds(31, "what: 0 to 2", form + "drawn(1, 7, -1) = -102; drawn(1, 7, 3) = -102; drawn(1, 7, 2147483647) = -102");
        holds(31, "STATE if there is no form", "drawn(1, 0, 0) = -103; drawn(100, 2147483647, 2) = -103; "
            + "drawn(0, 0, 0) = -102");
        for (int[] space : SPACES) {
            for (int seed : new int[] {0, 1, 65536, Integer.MAX_VALUE}) {
                drawnFrom(space, seed);
            }
        }
        QuadricFlats x = Script.run("drawn", form + "pick(1) = 1; letter(50) = 1; drawn(100, 7, 0)");
        long before = x.digest();
        Script.due("promise 31, the same answer again", x.drawn(100, 7, 0), x.drawn(100, 7, 0));
        Script.due("promise 31, \"Nothing is changed\"", x.digest(), before);
    }

    private static BigInteger nextSeed(BigInteger seed) {
        BigInteger whole = seed.multiply(BigInteger.valueOf(1103515245)).add(BigInteger.valueOf(12345));
        return whole.mod(BigInteger.valueOf(2147483648L));
    }

    private static int seedAfter(int draws, int start) {
        BigInteger seed = BigInteger.valueOf(start);
        for (int draw = 0; draw < draws; draw++) {
            seed = nextSeed(seed);
        }
        return seed.intValueExact();
    }

    /** "(seed / 65536, rounded down) modulo the number of points": the points are counted by value() and joined(). */
    private static void drawnFrom(int[] space, int start) {
        QuadricFlats x = Script.run("drawn", zeros(space) + "put(0, 1, 1) = 0");
        BigInteger seed = BigInteger.valueOf(start);
        int onQuadric = 0;
        int collinear = 0;
        for (int times = 1; times <= 100; times++) {
            seed = nextSeed(seed);
            int one = seed.intValueExact() / 65536 % space[2];
            seed = nextSeed(seed);
            int other = seed.intValueExact() / 65536 % space[2];
            onQuadric += (x.value(one) == 0 ? 1 : 0) + (x.value(other) == 0 ? 1 : 0);
            collinear += x.joined(one, other);
            if (times == 1 || times == 2 || times == 100) {
                String name = "promise 31, " + times + " pairs of " + zeros(space) + " from " + start;
                Script.due(name + ": on the quadric", x.drawn(times, start, 0), onQuadric);
                Script.due(name + ": collinear", x.drawn(times, start, 1), collinear);
                Script.due(name + ": seed", x.drawn(times, start, 2), seed.intValueExact());
            }
        }
    }

    private static void count() {
        holds(32, "OUTSIDE if what is not 0 to 8", "count(-1) = -102; count(0) = 0; count(8) = 0; count(9) = -102; "
            + "count(2147483647) = -102; count(-2147483648) = -102; " + GRID2 + "count(-1) = -102; count(9) = -102; "
            + "count(0) = 15; count(8) = 0");
        holds(32, "0 and 1 are 0 without a form", "count(0) = 0; count(1) = 0; text 2:010/00/1; count(0) = 0; "
            + "count(1) = 0; form() = 7; count(0) = 7; count(1) = 3");
        holds(32, "2: 0 if there is no nonsingular form", "count(2) = 0; " + ZERO + "count(2) = 0; " + CONE5
            + "count(2) = 0; count(1) = 31; put(3, 3, 1) = 0; count(2) = 12");
        holds(32, "3 and 4 for the lists", GRID2 + "pick(0) = 1; count(3) = 1; count(4) = 0; gather(0) = 1; "
            + "gather(3) = 2; count(3) = 1; count(4) = 2; drop(1) = 3; count(4) = 1");
        holds(32, "5 for the page", "count(5) = 0; letter(48) = 1; count(5) = 1; letter(31) = -102; count(5) = 1; "
            + "blank() = 1; count(5) = 0; " + CONIC + "count(5) = 0");
        holds(32, "6 for the forms that have been read", "form() = -103; count(6) = 0; " + CONIC + "count(6) = 1; "
            + "form() = -103; count(6) = 1; image() = 7; restore() = 7; "
            + "put(0, 0, 1) = 0; count(6) = 1; " + CONIC + "count(6) = 2");
        holds(32, "7 for the calls of finish() that did not return an error code", KLEIN + "finish(2) = -102; "
            + "count(7) = 0; finish(1) = -1; count(7) = 1; finish(0) = 5; count(7) = 2; finish(0) = 0; count(7) = 3; "
            + "ways(0) = 1; count(7) = 3");
        holds(32, "8 for those of ways()", KLEIN + "ways(2) = -102; count(8) = 0; ways(1) = 0; count(8) = 1; "
            + "ways(0) = 56; count(8) = 2; finish(0) = 5; count(8) = 2");
    }

    private static void digest() {
        digest("a new object", "", "");
        digest("the code of each character of the page", "letter(126); letter(32)", "~ ");
        digest("a full page", "letter(48); ".repeat(28), "0".repeat(28));
        digest("if there is a form", ZERO, "");
        digest("if there is a form: a cone and a page", CONE5 + "letter(126)", "~");
        digest("if it is nonsingular", CONIC, "");
        digest("in the order of the lists", CONIC + "pick(6); pick(1); gather(2); gather(0)", "");
        digest("the picked points and then the gathered flats", GRID2 + "gather(5); finish(0); letter(32)", " ");
        digest("count(0) to count(8)", KLEIN + "finish(1); finish(0); ways(1); drop(0)", "");
        digest("refused calls leave no trace", GRID5 + "finish(0); finish(1); finish(2); ways(9); form()", "");
        digest("a form that is restored", PARABOLIC3 + "image(); pick(93); times(2); restore(); pick(1)", "");
    }

    private static void digest(String sentence, String state, String page) {
        QuadricFlats x = Script.run("promise 33", state);
        Script.due("promise 33, \"" + sentence + "\"", x.digest(), Checksum.of(x, page));
    }

    /** "An object is used for at most 512 calls": the last ones answer as the first ones did. */
    private static void lastCall() {
        String start = KLEIN + "finish(0) = 5; ways(0) = 1; ";
        int made = 28 + 3;
        QuadricFlats x = Script.run("the last calls", start + "flat(3, 29, 6) = 59; ".repeat(510 - made) + "left(0) = 0");
        Script.due("the 512th call", x.digest(), Checksum.of(Script.run("a younger twin", start), ""));
    }
}
