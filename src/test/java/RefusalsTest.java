import java.io.IOException;
import java.util.ArrayList;
import java.util.Arrays;
import java.util.List;
import java.util.Map;
import java.util.TreeMap;

/**
 * "A method that returns an error code changes nothing." "Each return description lists the error codes in the
 * order in which they are checked, and the first one that applies is returned."
 * Each case names a state, a call and all codes that apply there; the answer that is due is the first of them in
 * the method's order. Two objects are brought into the state, the call is made on one of them, and both must then
 * look alike. A method's cases must meet each of its codes alone and each two of them together, and the orders
 * must be those of the document's return descriptions, which are read from it.
 */
public final class RefusalsTest {
    private static final String GRID2 = "text 2:0100/000/01/0; form() = 15; ";

    /** No form, no image; the page is empty, ends too early, or is full. */
    private static final String NEW = "";
    private static final String BEGUN = "text 2:01; ";
    private static final String FULL_PAGE = "text 2:010000/00000/0100/000/01/2; ";
    /** A form that is not nonsingular, an image of another one, and a page that is no text. */
    private static final String SINGULAR = GRID2 + "image() = 15; text 5:100/10/0; form() = 31; text 3:x; ";
    private static final String SINGULAR_FULL = SINGULAR + "text 0123456789012345678901234; ";
    /** 15 points, 9 of them on the quadric, 6 maximal flats; two entries in each list, an image of another form. */
    private static final String RICH = "text 3:100/10/2; form() = 13; image() = 13; " + GRID2
        + "pick(0) = 1; pick(1) = 2; gather(2) = 1; gather(1) = 2; ways(0) = 1; finish(1) = 1; drop(1) = 4; text 5:9; ";
    private static final String RICH_FULL = RICH + "text 0123456789012345678901234; ";
    private static final String NO_IMAGE = GRID2 + "pick(14) = 1; gather(5) = 1; text 2:000/00/; ";
    private static final String EMPTY_LISTS = GRID2 + "image() = 15; ";
    private static final String FIVE = EMPTY_LISTS + "text 5:1234/123/34/1; form() = 156; text 2; ";
    private static final String FINISHED = EMPTY_LISTS + "pick(14) = 1; finish(0) = 2; "
        + "finish(0) = 0; ".repeat(18) + "drop(0) = 1; finish(0) = 1; drop(0) = 1; gather(5) = 1; ";
    private static final String FINISHED_SINGULAR = FINISHED + "text 2:000/00/0; form() = 7; ";
    private static final String WAYED = EMPTY_LISTS + "pick(14) = 1; gather(5) = 1; " + "ways(0) = 2; ".repeat(12);
    private static final String WAYED_SINGULAR = WAYED + "text 2:000/00/0; form() = 7; ";

    private static final Map<String, String> ORDERS = new TreeMap<>();

    private final String method;
    private final List<String> order;
    private final List<List<String>> met = new ArrayList<>();

    private RefusalsTest(String method, String order) {
        this.method = method;
        this.order = Arrays.asList(order.split(" "));
        ORDERS.put(method, order);
    }

    public static void main(String[] args) throws IOException {
        texts();
        properties();
        points();
        flats();
        lists();
        searches();
        changes();
        imageAndCounts();
        readers();
        orders();
        Script.end();
    }

    private static void orders() throws IOException {
        Map<String, String> due = Document.codes();
        Script.due("methods with a return description", due.size(), 32);
        for (Map.Entry<String, String> entry : due.entrySet()) {
            String order = ORDERS.getOrDefault(entry.getKey(), "");
            Script.due("the codes of " + entry.getKey() + " are " + entry.getValue() + ", not " + order + ": it",
                order.equals(entry.getValue()) ? 1 : 0, 1);
        }
    }

    /** A call that must be refused, with the arguments alone: the method stands in the table's head. */
    private RefusalsTest at(String state, String arguments, String applying) {
        List<String> codes = Arrays.asList(applying.split(" "));
        String call = method + "(" + arguments + ")";
        int first = order.size();
        for (String code : codes) {
            Script.due(method + " has the code " + code, order.contains(code) ? 1 : 0, 1);
            first = Math.min(first, order.indexOf(code));
        }
        met.add(codes);
        unchanged(state, call, code(order.get(first)));
        return this;
    }

    /** A second STATE in the same description is written STATE2. */
    private static int code(String name) {
        switch (name) {
            case "UNKNOWN": return -101;
            case "OUTSIDE": return -102;
            case "FULL": return -104;
            default: return -103;
        }
    }

    private void all() {
        for (String one : order) {
            Script.due(method + ": a case where " + one + " alone applies", met.contains(List.of(one)) ? 1 : 0, 1);
            for (String other : order) {
                boolean both = other.equals("STATE2") || one.equals("STATE2");
                for (List<String> codes : met) {
                    both |= codes.contains(one) && codes.contains(other);
                }
                Script.due(method + ": a case where " + one + " and " + other + " apply", both ? 1 : 0, 1);
            }
        }
    }

    private static void unchanged(String state, String call, int due) {
        String name = "after " + state + call;
        QuadricFlats refused = Script.run(name, state + call + " = " + due);
        QuadricFlats twin = Script.run(name, state);
        compare(name, refused, twin);
    }

    /** All that can be asked, then the image's form, then what is left of the calls of finish() and ways(). */
    private static void compare(String name, QuadricFlats one, QuadricFlats other) {
        List<String> asked = new ArrayList<>(List.of("digest()", "fault()", "like()"));
        for (int what = 0; what <= 8; what++) {
            asked.add("about(" + what + ")");
            asked.add("count(" + what + ")");
        }
        for (int place = 0; place < 4; place++) {
            asked.add("chosen(0, " + place + ")");
            asked.add("chosen(1, " + place + ")");
        }
        asked.addAll(List.of("left(0)", "left(1)", "ways(0)", "ways(1)", "finish(0)", "finish(1)", "digest()",
            "form()", "letter(48)", "digest()", "restore()", "digest()", "like()", "drop(0)", "drop(1)"));
        for (String call : asked) {
            Script.due(name + ", then " + call, Script.answer(one, call), Script.answer(other, call));
        }
    }

    private static void texts() {
        new RefusalsTest("letter", "OUTSIDE FULL")
            .at(NEW, "31", "OUTSIDE").at(NEW, "127", "OUTSIDE").at(BEGUN, "-1", "OUTSIDE").at(RICH, "31", "OUTSIDE")
            .at(FULL_PAGE, "32", "FULL").at(FULL_PAGE, "126", "FULL").at(RICH_FULL, "48", "FULL")
            .at(SINGULAR_FULL, "48", "FULL").at(RICH_FULL, "127", "OUTSIDE FULL").at(FULL_PAGE, "31", "OUTSIDE FULL")
            .all();
        new RefusalsTest("form", "STATE")
            .at(NEW, "", "STATE").at(BEGUN, "", "STATE").at(FULL_PAGE, "", "STATE").at(SINGULAR, "", "STATE")
            .at(RICH, "", "STATE").at(RICH_FULL, "", "STATE").at(NO_IMAGE, "", "STATE").at(EMPTY_LISTS, "", "STATE")
            .at("text 2:010/00/1/; ", "", "STATE").at("text 2:010/00/10; ", "", "STATE").all();
    }

    private static void properties() {
        new RefusalsTest("about", "OUTSIDE STATE")
            .at(RICH, "-1", "OUTSIDE").at(RICH, "8", "OUTSIDE").at(SINGULAR, "8", "OUTSIDE")
            .at(NEW, "0", "STATE").at(BEGUN, "7", "STATE")
            .at(NEW, "-1", "OUTSIDE STATE").at(NEW, "8", "OUTSIDE STATE").all();
        new RefusalsTest("coefficient", "UNKNOWN")
            .at(NEW, "0, 0", "UNKNOWN").at(RICH, "-1, 0", "UNKNOWN").at(RICH, "0, -1", "UNKNOWN")
            .at(RICH, "4, 0", "UNKNOWN").at(RICH, "0, 4", "UNKNOWN").at(SINGULAR, "3, 3", "UNKNOWN").all();
        new RefusalsTest("count", "OUTSIDE")
            .at(NEW, "-1", "OUTSIDE").at(NEW, "9", "OUTSIDE").at(RICH, "9", "OUTSIDE").at(RICH, "-1", "OUTSIDE").all();
    }

    private static void points() {
        new RefusalsTest("point", "UNKNOWN")
            .at(NEW, "0, 0", "UNKNOWN").at(RICH, "-1, 0", "UNKNOWN").at(RICH, "15, 0", "UNKNOWN")
            .at(RICH, "0, -1", "UNKNOWN").at(RICH, "0, 4", "UNKNOWN").at(SINGULAR, "31, 0", "UNKNOWN").all();
        new RefusalsTest("value", "UNKNOWN")
            .at(NEW, "0", "UNKNOWN").at(RICH, "-1", "UNKNOWN").at(RICH, "15", "UNKNOWN").at(SINGULAR, "31", "UNKNOWN").all();
        for (String method : List.of("polar", "joined")) {
            new RefusalsTest(method, "UNKNOWN")
                .at(NEW, "0, 0", "UNKNOWN").at(RICH, "-1, 0", "UNKNOWN").at(RICH, "0, -1", "UNKNOWN")
                .at(RICH, "15, 0", "UNKNOWN").at(RICH, "0, 15", "UNKNOWN").at(RICH, "15, 15", "UNKNOWN").all();
        }
        new RefusalsTest("section", "UNKNOWN OUTSIDE")
            .at(NEW, "0, 0", "UNKNOWN").at(RICH, "-1, 0", "UNKNOWN").at(RICH, "15, 1", "UNKNOWN")
            .at(RICH, "0, -1", "OUTSIDE").at(RICH, "14, 2", "OUTSIDE").at(SINGULAR, "0, 2", "OUTSIDE")
            .at(NEW, "0, 2", "UNKNOWN OUTSIDE").at(NEW, "0, -1", "UNKNOWN OUTSIDE")
            .at(RICH, "15, 2", "UNKNOWN OUTSIDE").at(RICH, "-1, -1", "UNKNOWN OUTSIDE").all();
    }

    private static void flats() {
        new RefusalsTest("flats", "OUTSIDE STATE")
            .at(RICH, "0", "OUTSIDE").at(RICH, "4", "OUTSIDE").at(NEW, "1", "STATE").at(SINGULAR, "3", "STATE")
            .at(NEW, "0", "OUTSIDE STATE").at(SINGULAR, "4", "OUTSIDE STATE").all();
        new RefusalsTest("flat", "OUTSIDE STATE UNKNOWN")
            .at(RICH, "0, 0, 0", "OUTSIDE").at(RICH, "4, 0, 0", "OUTSIDE")
            .at(NEW, "1, 0, 0", "STATE").at(SINGULAR, "1, 0, 0", "STATE")
            .at(RICH, "1, 9, 0", "UNKNOWN").at(RICH, "1, -1, 0", "UNKNOWN").at(RICH, "1, 0, 1", "UNKNOWN")
            .at(RICH, "2, 6, 0", "UNKNOWN").at(RICH, "2, 0, 3", "UNKNOWN").at(RICH, "2, 0, -1", "UNKNOWN")
            .at(RICH, "3, 0, 0", "UNKNOWN")
            .at(NEW, "0, 0, 0", "OUTSIDE STATE").at(SINGULAR, "4, 0, 0", "OUTSIDE STATE")
            .at(RICH, "0, -1, 0", "OUTSIDE UNKNOWN").at(RICH, "4, 0, 9", "OUTSIDE UNKNOWN")
            .at(SINGULAR, "1, -1, 0", "STATE UNKNOWN").at(NEW, "3, 0, -1", "STATE UNKNOWN")
            .at(NEW, "4, -1, -1", "OUTSIDE STATE UNKNOWN").at(SINGULAR, "0, -1, -1", "OUTSIDE STATE UNKNOWN").all();
        new RefusalsTest("near", "STATE UNKNOWN OUTSIDE")
            .at(NEW, "0, 0, 0", "STATE").at(SINGULAR, "0, 0, 1", "STATE")
            .at(RICH, "2, 0, 0", "UNKNOWN").at(RICH, "-1, 0, 0", "UNKNOWN").at(RICH, "15, 0, 0", "UNKNOWN")
            .at(RICH, "0, -1, 1", "UNKNOWN").at(RICH, "0, 6, 1", "UNKNOWN")
            .at(RICH, "0, 0, -1", "OUTSIDE").at(RICH, "0, 5, 2", "OUTSIDE")
            .at(SINGULAR, "31, 0, 0", "STATE UNKNOWN").at(NEW, "0, 0, 2", "STATE OUTSIDE")
            .at(SINGULAR, "0, 0, -1", "STATE OUTSIDE").at(RICH, "2, 0, 2", "UNKNOWN OUTSIDE")
            .at(RICH, "15, 0, -1", "UNKNOWN OUTSIDE").at(RICH, "0, 6, 2", "UNKNOWN OUTSIDE")
            .at(SINGULAR, "31, -1, 2", "STATE UNKNOWN OUTSIDE").all();
    }

    private static void lists() {
        // STATE2 never meets the others: it is about an entry that is there, of a nonsingular form
        new RefusalsTest("pick", "STATE UNKNOWN STATE2")
            .at(NEW, "0", "STATE").at(SINGULAR, "0", "STATE").at(SINGULAR, "1", "STATE")
            .at(RICH, "-1", "UNKNOWN").at(RICH, "15", "UNKNOWN").at(RICH, "2", "UNKNOWN")
            .at(RICH, "0", "STATE2").at(RICH, "1", "STATE2").at(RICH, "3", "STATE2").at(NO_IMAGE, "14", "STATE2")
            .at(NEW, "-1", "STATE UNKNOWN").at(SINGULAR, "31", "STATE UNKNOWN").all();
        new RefusalsTest("gather", "STATE UNKNOWN STATE2")
            .at(NEW, "0", "STATE").at(SINGULAR, "0", "STATE")
            .at(RICH, "-1", "UNKNOWN").at(RICH, "6", "UNKNOWN").at(EMPTY_LISTS, "6", "UNKNOWN")
            .at(RICH, "2", "STATE2").at(RICH, "1", "STATE2").at(RICH, "0", "STATE2").at(NO_IMAGE, "5", "STATE2")
            .at(NEW, "-1", "STATE UNKNOWN").at(SINGULAR, "99", "STATE UNKNOWN").all();
        new RefusalsTest("drop", "OUTSIDE STATE")
            .at(RICH, "-1", "OUTSIDE").at(RICH, "2", "OUTSIDE")
            .at(NEW, "0", "STATE").at(NEW, "1", "STATE").at(SINGULAR, "0", "STATE").at(EMPTY_LISTS, "1", "STATE")
            .at(NEW, "2", "OUTSIDE STATE").at(EMPTY_LISTS, "-1", "OUTSIDE STATE").all();
        new RefusalsTest("chosen", "OUTSIDE UNKNOWN")
            .at(RICH, "-1, 0", "OUTSIDE").at(RICH, "2, 1", "OUTSIDE")
            .at(NEW, "0, 0", "UNKNOWN").at(EMPTY_LISTS, "1, 0", "UNKNOWN").at(RICH, "0, 2", "UNKNOWN")
            .at(RICH, "1, 2", "UNKNOWN").at(RICH, "0, -1", "UNKNOWN").at(RICH, "1, -1", "UNKNOWN")
            .at(NEW, "2, 0", "OUTSIDE UNKNOWN").at(RICH, "-1, -1", "OUTSIDE UNKNOWN").all();
        new RefusalsTest("left", "OUTSIDE STATE")
            .at(RICH, "-1", "OUTSIDE").at(RICH, "2", "OUTSIDE").at(NEW, "0", "STATE").at(SINGULAR, "1", "STATE")
            .at(NEW, "2", "OUTSIDE STATE").at(SINGULAR, "-1", "OUTSIDE STATE").all();
    }

    private static void searches() {
        new RefusalsTest("finish", "OUTSIDE STATE")
            .at(RICH, "-1", "OUTSIDE").at(RICH, "2", "OUTSIDE").at(NEW, "0", "STATE").at(SINGULAR, "1", "STATE")
            .at(FINISHED, "0", "STATE").at(FINISHED, "1", "STATE").at(FINISHED_SINGULAR, "0", "STATE")
            .at(NEW, "2", "OUTSIDE STATE").at(SINGULAR, "-1", "OUTSIDE STATE").at(FINISHED, "2", "OUTSIDE STATE")
            .at(FINISHED_SINGULAR, "-1", "OUTSIDE STATE").all();
        new RefusalsTest("ways", "OUTSIDE STATE")
            .at(RICH, "-1", "OUTSIDE").at(RICH, "2", "OUTSIDE").at(NEW, "0", "STATE").at(SINGULAR, "1", "STATE")
            .at(WAYED, "0", "STATE").at(WAYED, "1", "STATE").at(WAYED_SINGULAR, "0", "STATE")
            .at(NEW, "2", "OUTSIDE STATE").at(SINGULAR, "-1", "OUTSIDE STATE").at(WAYED, "2", "OUTSIDE STATE")
            .at(WAYED_SINGULAR, "-1", "OUTSIDE STATE").all();
    }

    private static void changes() {
        new RefusalsTest("put", "UNKNOWN OUTSIDE")
            .at(NEW, "0, 0, 0", "UNKNOWN").at(RICH, "-1, 0, 0", "UNKNOWN").at(RICH, "0, -1, 0", "UNKNOWN")
            .at(RICH, "4, 0, 1", "UNKNOWN").at(RICH, "0, 4, 1", "UNKNOWN").at(SINGULAR, "3, 3, 4", "UNKNOWN")
            .at(RICH, "0, 0, -1", "OUTSIDE").at(RICH, "3, 3, 2", "OUTSIDE").at(FIVE, "0, 3, 5", "OUTSIDE")
            .at(NEW, "0, 0, 9", "UNKNOWN OUTSIDE").at(RICH, "4, 0, 2", "UNKNOWN OUTSIDE")
            .at(FIVE, "0, -1, -1", "UNKNOWN OUTSIDE").all();
        new RefusalsTest("swap", "UNKNOWN")
            .at(NEW, "0, 1", "UNKNOWN").at(RICH, "0, 0", "UNKNOWN").at(RICH, "3, 3", "UNKNOWN")
            .at(RICH, "-1, 0", "UNKNOWN").at(RICH, "0, -1", "UNKNOWN").at(RICH, "4, 0", "UNKNOWN")
            .at(RICH, "0, 4", "UNKNOWN").at(SINGULAR, "0, 3", "UNKNOWN").at(FIVE, "4, 4", "UNKNOWN").all();
        new RefusalsTest("plus", "UNKNOWN OUTSIDE")
            .at(NEW, "0, 1, 0", "UNKNOWN").at(RICH, "0, 0, 1", "UNKNOWN").at(RICH, "-1, 0, 1", "UNKNOWN")
            .at(RICH, "0, -1, 1", "UNKNOWN").at(RICH, "4, 0, 0", "UNKNOWN").at(RICH, "0, 4, 0", "UNKNOWN")
            .at(RICH, "0, 1, -1", "OUTSIDE").at(RICH, "0, 1, 2", "OUTSIDE").at(FIVE, "3, 0, 5", "OUTSIDE")
            .at(NEW, "0, 1, 9", "UNKNOWN OUTSIDE").at(RICH, "1, 1, 2", "UNKNOWN OUTSIDE")
            .at(FIVE, "4, 0, -1", "UNKNOWN OUTSIDE").all();
        new RefusalsTest("scale", "UNKNOWN OUTSIDE")
            .at(NEW, "0, 1", "UNKNOWN").at(RICH, "-1, 1", "UNKNOWN").at(RICH, "4, 1", "UNKNOWN")
            .at(RICH, "0, 0", "OUTSIDE").at(RICH, "3, 2", "OUTSIDE").at(FIVE, "0, 5", "OUTSIDE")
            .at(FIVE, "0, 0", "OUTSIDE").at(RICH, "0, -1", "OUTSIDE")
            .at(NEW, "0, 0", "UNKNOWN OUTSIDE").at(RICH, "4, 2", "UNKNOWN OUTSIDE").at(FIVE, "-1, 0", "UNKNOWN OUTSIDE").all();
        new RefusalsTest("times", "STATE OUTSIDE")
            .at(NEW, "1", "STATE").at(BEGUN, "1", "STATE")
            .at(RICH, "0", "OUTSIDE").at(RICH, "2", "OUTSIDE").at(FIVE, "5", "OUTSIDE").at(FIVE, "0", "OUTSIDE")
            .at(SINGULAR, "-1", "OUTSIDE").at(NEW, "0", "STATE OUTSIDE").at(NEW, "9", "STATE OUTSIDE").all();
    }

    private static void imageAndCounts() {
        new RefusalsTest("image", "STATE").at(NEW, "", "STATE").at(BEGUN, "", "STATE").at(FULL_PAGE, "", "STATE").all();
        new RefusalsTest("restore", "STATE").at(NEW, "", "STATE").at(BEGUN, "", "STATE").at(NO_IMAGE, "", "STATE").all();
        new RefusalsTest("like", "STATE").at(NEW, "", "STATE").at(BEGUN, "", "STATE").at(NO_IMAGE, "", "STATE").all();
        new RefusalsTest("drawn", "OUTSIDE STATE")
            .at(RICH, "0, 0, 0", "OUTSIDE").at(RICH, "101, 0, 0", "OUTSIDE").at(RICH, "1, -1, 0", "OUTSIDE")
            .at(RICH, "1, 0, -1", "OUTSIDE").at(RICH, "1, 0, 3", "OUTSIDE").at(SINGULAR, "-1, -1, -1", "OUTSIDE")
            .at(NEW, "1, 0, 0", "STATE").at(BEGUN, "100, 2147483647, 2", "STATE")
            .at(NEW, "0, 0, 0", "OUTSIDE STATE").at(NEW, "1, -1, 0", "OUTSIDE STATE")
            .at(NEW, "1, 0, 3", "OUTSIDE STATE").at(BEGUN, "101, 0, 0", "OUTSIDE STATE").all();
    }

    /** Calls that only tell something: they change nothing either, though they answer. */
    private static void readers() {
        String[] calls = {"fault() = 2", "about(7) = 2", "coefficient(0, 1) = 1", "point(14, 0) = 1", "value(2) = 1",
            "polar(0, 1) = 1", "joined(0, 3) = 1", "section(0, 1) = 1", "flats(2) = 6", "flat(2, 5, 2) = 14",
            "near(0, 3, 1) = 7", "chosen(0, 1) = 1", "left(0) = 2", "like() = 0", "drawn(100, 2147483647, 1)",
            "count(8) = 1", "digest()"};
        for (String call : calls) {
            compare(call, Script.run(call, RICH + call), Script.run(call, RICH));
        }
    }
}
