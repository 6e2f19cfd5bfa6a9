/** The promises 1 to 33 in their order: ordinary inputs, the edges of the document, wrong inputs. */
public final class PromisesTest {
    private static final String CONIC = "text 2:010/00/1; form() = 7; ";
    private static final String GRID2 = "text 2:0100/000/01/0; form() = 15; ";
    private static final String ELLIPTIC2 = "text 2:0100/000/11/1; form() = 15; ";
    private static final String PARABOLIC2 = "text 2:01000/0000/010/00/1; form() = 31; ";
    private static final String KLEIN = "text 2:010000/00000/0100/000/01/0; form() = 63; ";
    private static final String ELLIPTIC6 = "text 2:010000/00000/0100/000/11/1; form() = 63; ";
    private static final String PARABOLIC3 = "text 3:01000/0000/010/00/1; form() = 121; ";
    private static final String GRID5 = "text 5:0100/000/01/0; form() = 156; ";
    private static final String ELLIPTIC5 = "text 5:0100/000/10/2; form() = 156; ";
    private static final String ZERO = "text 2:000/00/0; form() = 7; ";
    private static final String CONE5 = "text 5:1000/100/10/0; form() = 156; ";

    public static void main(String[] args) {
        newObject();
        letter();
        blank();
        fault();
        form();
        about();
        coefficientAndPoint();
        valuePolarJoined();
        section();
        flats();
        flat();
        near();
        pick();
        gather();
        dropAndChosen();
        left();
        finish();
        finishLimit();
        ways();
        waysLimit();
        put();
        swap();
        plus();
        scale();
        times();
        imageAndRestore();
        like();
        drawn();
        count();
        digest();
        emptiedLists();
        Script.end();
    }

    private static void promise(int number, String calls) {
        Script.run("promise " + number, calls);
    }

    private static String repeated(String call, int times) {
        return (call + "; ").repeat(times);
    }

    private static void newObject() {
        promise(1, "count(0) = 0; count(1) = 0; count(2) = 0; count(3) = 0; count(4) = 0; count(5) = 0; "
            + "count(6) = 0; count(7) = 0; count(8) = 0; fault() = 0; about(0) = -103; image() = -103; "
            + "restore() = -103; like() = -103; drop(0) = -103; drop(1) = -103; blank() = 0");
        QuadricFlats one = Script.run("promise 1", CONIC + "pick(1) = 1; letter(50) = 1; image() = 7; ways(0) = 1");
        Script.run("promise 1", "count(0) = 0; count(3) = 0; count(5) = 0; restore() = -103; count(8) = 0");
        Script.run("promise 1", one, "count(0) = 7; count(3) = 1; count(5) = 1; restore() = 7; count(8) = 1");
    }

    private static void letter() {
        promise(2, "letter(32) = 1; letter(126) = 2; letter(31) = -102; letter(127) = -102; letter(-1) = -102; "
            + "letter(2147483647) = -102; letter(-2147483648) = -102; count(5) = 2");
        promise(2, repeated("letter(48)", 27) + "letter(49) = 28; letter(49) = -104; letter(31) = -102; "
            + "letter(127) = -102; count(5) = 28; blank() = 28; letter(49) = 1");
    }

    private static void blank() {
        promise(3, "blank() = 0; letter(50) = 1; letter(58) = 2; blank() = 2; blank() = 0; count(5) = 0; fault() = 0");
        promise(3, CONIC + "letter(50) = 1; pick(1) = 1; blank() = 1; about(0) = 2; count(3) = 1; count(6) = 1");
    }

    private static void faultOf(String text, int place) {
        QuadricFlats x = new QuadricFlats();
        Script.type(x, text);
        Script.due("promise 4: fault of " + text, x.fault(), place);
        Script.due("promise 4: length of " + text, x.count(5), text.length());
    }

    private static void fault() {
        faultOf("", 0);
        faultOf("2", 1);
        faultOf("1:", 0);
        faultOf("4", 0);
        faultOf("7", 0);
        faultOf(":2", 0);
        faultOf("2/", 1);
        faultOf("22", 1);
        faultOf("2:", 2);
        faultOf("2:2", 2);
        faultOf("3:2", 3);
        faultOf("3:3", 2);
        faultOf("5:4", 3);
        faultOf("5:5", 2);
        faultOf("2:/", 2);
        faultOf("2:00/", 4);
        faultOf("2:000/", 6);
        faultOf("2:000:", 5);
        faultOf("2:000000/", 9);
        faultOf("2:0000000", 8);
        faultOf("3:00000/", 8);
        faultOf("3:000000", 7);
        faultOf("5:0000/", 7);
        faultOf("5:00000", 6);
        faultOf("2:000/0/", 7);
        faultOf("2:000/000", 8);
        faultOf("2:000/00/", 9);
        faultOf("2:000//", 6);
        faultOf("2:000/00/0", 10);
        faultOf("2:000/00/0/", 10);
        faultOf("2:000/00/00", 10);
        faultOf("2:000/00/0 ", 10);
        faultOf("2:000000/00000/0000/000/00/0", 28);
        faultOf("2:000000/00000/0000/000/00/2", 27);
        faultOf(" 2:000", 0);
        faultOf("2 :000", 1);
    }

    private static void form() {
        promise(5, "form() = -103; count(6) = 0; text 2:000/00; form() = -103; count(5) = 8; letter(47); "
            + "form() = -103; letter(49) = 10; form() = 7; count(5) = 0; count(6) = 1; form() = -103; about(0) = 2; "
            + "coefficient(2, 2) = 1");
        promise(5, "text 2:000/00/0/; form() = -103; count(5) = 11; fault() = 10; count(6) = 0; about(0) = -103");
        promise(5, "text 2; form() = -103; text :000; form() = -103; text /00/1; form() = 7");
        promise(5, "text 2:0000/000/00/0; form() = 15; text 2:00000/0000/000/00/0; form() = 31; "
            + "text 2:000000/00000/0000/000/00/0; form() = 63; text 3:000/00/0; form() = 13; "
            + "text 3:0000/000/00/0; form() = 40; text 3:00000/0000/000/00/0; form() = 121; text 5:000/00/0; form() = 31; "
            + "text 5:0000/000/00/0; form() = 156; count(6) = 8; about(4) = 156");
        promise(5, "text 3:012/10/2; form() = 13; coefficient(0, 0) = 0; coefficient(0, 1) = 1; coefficient(0, 2) = 2; "
            + "coefficient(1, 1) = 1; coefficient(1, 2) = 0; coefficient(2, 2) = 2");
    }

    private static void about() {
        promise(6, "about(-1) = -102; about(8) = -102; about(0) = -103; about(7) = -103");
        promise(6, PARABOLIC3 + "about(0) = 3; about(1) = 5; about(2) = 121; about(3) = 40; about(4) = 0; "
            + "about(5) = 0; about(6) = -1; about(7) = 2; about(8) = -102; about(-1) = -102");
        promise(6, KLEIN + "about(0) = 2; about(1) = 6; about(3) = 35; about(5) = 1; about(6) = 0; about(7) = 3");
        promise(6, ELLIPTIC6 + "about(3) = 27; about(5) = 2; about(7) = 2");
        promise(6, GRID2 + "about(3) = 9; about(5) = 1; about(7) = 2");
        promise(6, ELLIPTIC2 + "about(3) = 5; about(5) = 2; about(7) = 1");
        promise(6, ELLIPTIC5 + "about(3) = 26; about(5) = 2; about(6) = -1; about(7) = 1");
        promise(6, GRID5 + "about(3) = 36; about(5) = 1; about(6) = 1; about(7) = 2");
        promise(6, CONE5 + "about(3) = 31; about(4) = 1; about(5) = 3; about(6) = 0; about(7) = -1");
        promise(6, ZERO + "about(3) = 7; about(4) = 7; about(5) = 3; about(6) = 0; about(7) = -1");
        // over 2 elements the polar form of this one vanishes at a point that is not on the quadric
        promise(6, CONIC + "about(4) = 0; about(5) = 0; polar(0, 1) = 0; polar(0, 3) = 0; value(0) = 1");
        promise(6, "text 3:100/10/1; form() = 13; about(6) = -1; text 5:100/10/1; form() = 31; about(6) = -1; "
            + "times(2) = 1; text 5:200/10/1; form() = 31; about(6) = 1");
        discriminants();
    }

    /** All forms with numbers in each row and column: the elimination meets every pivot. */
    private static void discriminants() {
        String[] texts = {"3:00%d/%d1/%d", "3:%d%d1/12/%d", "5:%d%d1/23/%d", "5:0%d4/%d2/%d", "5:3%d2/%d4/%d"};
        for (String text : texts) {
            int prime = text.charAt(0) - '0';
            for (int code = 0; code < prime * prime * prime; code++) {
                String filled = String.format(text, code % prime, code / prime % prime, code / prime / prime);
                promise(6, "text " + filled + "; form(); about(6) = " + discriminantOf(filled, prime));
            }
        }
        promise(6, "text 5:1234/123/34/1; form(); about(6) = 1; text 5:0123/123/34/2; form(); about(6) = -1; "
            + "text 3:12012/2101/102/12/1; form(); about(6) = 0; text 3:12012/2101/102/12/2; form(); about(6) = 1; "
            + "text 3:01201/0210/012/01/1; form(); about(6) = -1; text 3:01201/0210/012/02/0; form(); about(6) = 1");
    }

    private static int discriminantOf(String text, int p) {
        int[] place = {2, 3, 4, 6, 7, 9};
        int[] c = new int[6];
        for (int k = 0; k < 6; k++) {
            c[k] = text.charAt(place[k]) - '0';
        }
        int a = 2 * c[0], b = c[1], d = c[2], e = 2 * c[3], f = c[4], g = 2 * c[5];
        int determinant = Math.floorMod(a * (e * g - f * f) - b * (b * g - f * d) + d * (b * f - e * d), p);
        return determinant == 0 ? 0 : determinant == 1 || determinant == 4 ? 1 : -1;
    }

    private static void coefficientAndPoint() {
        promise(7, "coefficient(0, 0) = -101; text 3:012/10/2; form() = 13; coefficient(0, 2) = 2; "
            + "coefficient(2, 0) = 2; coefficient(2, 2) = 2; coefficient(3, 0) = -101; coefficient(0, 3) = -101; "
            + "coefficient(-1, 0) = -101; coefficient(0, -1) = -101; coefficient(2147483647, 0) = -101");
        promise(8, "point(0, 0) = -101; " + PARABOLIC3 + "point(0, 4) = 1; point(0, 0) = 0; point(1, 3) = 1; "
            + "point(1, 4) = 0; point(120, 0) = 1; point(120, 4) = 2; point(121, 0) = -101; point(-1, 0) = -101; "
            + "point(0, 5) = -101; point(0, -1) = -101; point(40, 0) = 1; point(40, 1) = 0; point(39, 0) = 0");
        promise(8, GRID5 + "point(6, 1) = 1; point(6, 2) = 0; point(6, 3) = 0; point(5, 2) = 1; point(5, 3) = 4; "
            + "point(155, 0) = 1; point(155, 3) = 4; point(156, 0) = -101");
        promise(8, KLEIN + "point(62, 0) = 1; point(62, 5) = 1; point(31, 0) = 1; point(31, 5) = 0; point(63, 5) = -101; "
            + "point(62, 6) = -101");
    }

    private static void valuePolarJoined() {
        promise(9, "value(0) = -101; " + ELLIPTIC5 + "value(0) = 2; value(1) = 1; value(5) = 3; value(6) = 0; "
            + "value(155) = 2; value(156) = -101; value(-1) = -101");
        promise(10, "polar(0, 0) = -101; " + ELLIPTIC5 + "polar(0, 0) = 4; polar(1, 1) = 2; polar(0, 1) = 0; "
            + "polar(6, 31) = 1; polar(31, 6) = 1; polar(155, 155) = 4; polar(156, 0) = -101; polar(0, 156) = -101; "
            + "polar(-1, 0) = -101; polar(0, -1) = -101");
        promise(10, GRID2 + "polar(0, 1) = 1; polar(0, 0) = 0; polar(14, 14) = 0; polar(15, 0) = -101");
        promise(11, "joined(0, 0) = -101; " + GRID2 + "joined(0, 3) = 1; joined(3, 0) = 1; joined(0, 1) = 0; "
            + "joined(0, 0) = 0; joined(2, 2) = 0; joined(0, 15) = -101; joined(15, 0) = -101; joined(-1, 0) = -101; "
            + "joined(0, -1) = -101; joined(2, 3) = 0");
        promise(11, ZERO + "joined(0, 6) = 1; joined(6, 6) = 0; joined(6, 7) = -101");
        // polar value 0, but not on the quadric
        promise(11, "text 3:100/10/1; form() = 13; polar(0, 1) = 0; joined(0, 1) = 0");
    }

    private static void section() {
        promise(12, "section(0, 0) = -101; section(0, 5) = -101; " + GRID2 + "section(0, 0) = 5; section(0, 1) = 1; "
            + "section(1, 1) = 0; section(7, 0) = 5; section(7, 1) = 3; section(15, 0) = -101; section(15, 2) = -101; "
            + "section(-1, 0) = -101; section(0, 2) = -102; section(0, -1) = -102");
        promise(12, "text 3:100/10/2; form() = 13; section(0, 1) = -1; section(0, 0) = 0");
        // a zero normal is tangent to nothing: the cone's vertex
        promise(12, CONE5 + "section(0, 1) = -1; section(0, 0) = 6; section(155, 0) = 6; section(155, 1) = -1");
        promise(12, ZERO + "section(3, 0) = 3; section(3, 1) = -1");
        promise(12, "text 2:100/00/0; form() = 7; section(0, 1) = -1; section(3, 0) = 3; section(3, 1) = -1");
        // a cone over a conic: the lowest of several points with the same tangent section
        promise(12, "text 3:0100/000/10/0; form() = 40; about(3) = 13; about(4) = 1; section(4, 1) = 13; section(13, 1) = 4");
    }

    private static void flats() {
        promise(13, "flats(0) = -102; flats(4) = -102; flats(1) = -103; " + KLEIN + "flats(1) = 35; flats(2) = 105; "
            + "flats(3) = 30; flats(0) = -102; flats(4) = -102; flats(-1) = -102");
        promise(13, ELLIPTIC6 + "flats(1) = 27; flats(2) = 45; flats(3) = 0");
        promise(13, PARABOLIC3 + "flats(1) = 40; flats(2) = 40; flats(3) = 0");
        promise(13, PARABOLIC2 + "flats(1) = 15; flats(2) = 15; flats(3) = 0");
        promise(13, GRID5 + "flats(1) = 36; flats(2) = 12; flats(3) = 0");
        promise(13, ELLIPTIC5 + "flats(1) = 26; flats(2) = 0; flats(3) = 0");
        promise(13, CONIC + "flats(1) = 3; flats(2) = 0; flats(3) = 0");
        promise(13, ZERO + "flats(1) = -103; flats(3) = -103; flats(4) = -102");
    }

    private static void flat() {
        promise(14, "flat(0, 0, 0) = -102; flat(4, 0, 0) = -102; flat(1, 0, 0) = -103; flat(1, -1, -1) = -103; "
            + ZERO + "flat(1, 0, 0) = -103; flat(4, 0, 0) = -102");
        promise(14, CONIC + "flat(1, 0, 0) = 1; flat(1, 1, 0) = 3; flat(1, 2, 0) = 6; flat(1, 3, 0) = -101; "
            + "flat(1, -1, 0) = -101; flat(1, 0, 1) = -101; flat(1, 0, -1) = -101; flat(2, 0, 0) = -101; "
            + "flat(3, 0, 0) = -101");
        promise(14, GRID2 + "flat(2, 0, 0) = 0; flat(2, 0, 1) = 3; flat(2, 0, 2) = 4; flat(2, 1, 0) = 0; "
            + "flat(2, 1, 1) = 7; flat(2, 1, 2) = 8; flat(2, 5, 0) = 5; flat(2, 5, 1) = 8; flat(2, 5, 2) = 14; "
            + "flat(2, 5, 3) = -101; flat(2, 6, 0) = -101; flat(2, 0, -1) = -101; flat(2, 2147483647, 0) = -101");
        promise(14, KLEIN + "flat(3, 0, 0) = 0; flat(3, 0, 6) = 20; flat(3, 29, 6) = 59; flat(3, 29, 7) = -101; "
            + "flat(3, 30, 0) = -101; flat(2, 104, 2) = 54; flat(2, 104, 3) = -101; flat(2, 105, 0) = -101; "
            + "flat(1, 34, 0) = 61; flat(1, 35, 0) = -101");
    }

    private static void near() {
        promise(15, "near(0, 0, 0) = -103; near(0, 0, 5) = -103; " + ZERO + "near(0, 0, 0) = -103");
        promise(15, GRID2 + "near(0, 0, 0) = 3; near(0, 0, 1) = 0; near(0, 3, 0) = 1; near(0, 3, 1) = 7; "
            + "near(2, 0, 0) = -101; near(15, 0, 0) = -101; near(-1, 0, 0) = -101; near(0, 6, 0) = -101; "
            + "near(0, -1, 0) = -101; near(0, 0, 2) = -102; near(0, 0, -1) = -102; near(2, 0, 2) = -101; "
            + "near(0, 6, 2) = -101");
        promise(15, KLEIN + "near(0, 0, 0) = 7; near(62, 0, 0) = -101; near(61, 0, 0) = 3; near(61, 0, 1) = 4");
        promise(15, CONIC + "near(1, 0, 0) = 1; near(1, 0, 1) = 1; near(1, 1, 0) = 0; near(1, 1, 1) = -1; "
            + "near(0, 0, 0) = -101");
    }

    private static void pick() {
        promise(16, "pick(0) = -103; " + ZERO + "pick(0) = -103; pick(7) = -103");
        promise(16, GRID2 + "pick(2) = -101; pick(15) = -101; pick(-1) = -101; pick(0) = 1; pick(0) = -103; "
            + "pick(3) = -103; pick(1) = 2; pick(2) = -101; pick(14) = 3; count(3) = 3; chosen(0, 2) = 14");
        promise(16, ELLIPTIC5 + "pick(6) = 1; pick(6) = -103; pick(31) = 2; pick(0) = -101; count(3) = 2");
        promise(16, KLEIN + "pick(0) = 1; pick(1) = 2; pick(3) = -103; pick(62) = -101; pick(14) = 3; pick(14) = -103");
    }

    private static void gather() {
        promise(17, "gather(0) = -103; " + ZERO + "gather(0) = -103; gather(-1) = -103");
        promise(17, GRID2 + "gather(6) = -101; gather(-1) = -101; gather(2) = 1; gather(2) = -103; gather(0) = -103; "
            + "gather(1) = 2; gather(4) = 3; count(4) = 3; chosen(1, 0) = 2; chosen(1, 2) = 4");
        promise(17, CONIC + "gather(2) = 1; gather(0) = 2; gather(2) = -103; gather(3) = -101; chosen(1, 0) = 2");
        promise(17, KLEIN + "gather(29) = 1; gather(30) = -101; gather(29) = -103; left(1) = 28");
    }

    private static void dropAndChosen() {
        promise(18, "drop(2) = -102; drop(-1) = -102; drop(0) = -103; drop(1) = -103; " + GRID2
            + "pick(0) = 1; pick(14) = 2; gather(5) = 1; drop(0) = 14; drop(2) = -102; count(3) = 1; count(4) = 1; "
            + "drop(0) = 0; drop(0) = -103; drop(1) = 5; drop(1) = -103; pick(14) = 1");
        promise(19, "chosen(2, 0) = -102; chosen(-1, 0) = -102; chosen(0, 0) = -101; chosen(1, 0) = -101; " + GRID2
            + "pick(14) = 1; pick(0) = 2; gather(5) = 1; chosen(0, 0) = 14; chosen(0, 1) = 0; chosen(0, 2) = -101; "
            + "chosen(0, -1) = -101; chosen(1, 0) = 5; chosen(1, 1) = -101; chosen(2, 0) = -102; chosen(2, 9) = -102; "
            + "chosen(0, 2147483647) = -101");
    }

    private static void left() {
        promise(20, "left(2) = -102; left(-1) = -102; left(0) = -103; left(1) = -103; " + ZERO + "left(0) = -103; "
            + "left(2) = -102; " + GRID2 + "left(0) = 6; left(1) = 9; pick(0) = 1; left(0) = 4; left(1) = 9; "
            + "gather(0) = 1; left(0) = 4; left(1) = 6; drop(0) = 0; left(0) = 6");
        promise(20, KLEIN + "left(0) = 30; left(1) = 35; pick(0) = 1; left(0) = 24; gather(3) = 1; left(1) = 28");
        promise(20, ELLIPTIC5 + "left(0) = 26; left(1) = 26; pick(6) = 1; left(0) = 25; gather(1) = 1; left(1) = 25");
    }

    private static void finish() {
        promise(21, "finish(2) = -102; finish(-1) = -102; finish(0) = -103; " + ZERO + "finish(0) = -103; count(7) = 0");
        promise(21, GRID2 + "finish(0) = 3; chosen(0, 0) = 0; chosen(0, 1) = 1; chosen(0, 2) = 14; finish(0) = 0; "
            + "count(7) = 2; count(3) = 3; left(0) = 0; gather(5) = 1; finish(1) = 2; chosen(1, 0) = 5; "
            + "chosen(1, 1) = 0; chosen(1, 2) = 3; left(1) = 0");
        promise(21, GRID2 + "pick(14) = 1; finish(0) = 2; chosen(0, 0) = 14; chosen(0, 1) = 0; chosen(0, 2) = 1");
        promise(21, PARABOLIC3 + "finish(1) = -1; count(4) = 0; count(7) = 1; gather(7) = 1; finish(1) = -1; "
            + "count(4) = 1; finish(0) = 10; chosen(0, 0) = 1; chosen(0, 9) = 93; finish(0) = 0; drop(0) = 93; "
            + "finish(0) = 1; drop(0) = 93");
        promise(21, KLEIN + "finish(0) = 5; chosen(0, 4) = 58; finish(1) = -1; gather(0) = 1; finish(1) = -1; left(1) = 28");
        promise(21, ELLIPTIC6 + "finish(0) = -1; finish(1) = 9; chosen(1, 0) = 0; left(1) = 0");
        promise(21, ELLIPTIC5 + "gather(25) = 1; finish(1) = 25; chosen(1, 0) = 25; chosen(1, 1) = 0; "
            + "chosen(1, 25) = 24; finish(0) = 26; chosen(0, 25) = 151; drop(0) = 151; finish(0) = 1");
    }

    private static void finishLimit() {
        promise(21, "finish(0) = -103; " + PARABOLIC3 + "finish(3) = -102; " + repeated("finish(1) = -1", 10)
            + "finish(0) = 10; " + repeated("finish(0) = 0", 8) + "count(7) = 19; finish(2) = -102; "
            + "text 2:000/00/0; form() = 7; finish(0) = -103; count(7) = 19; " + GRID2
            + "finish(1) = 3; count(7) = 20; finish(0) = -103; finish(1) = -103; finish(2) = -102; count(7) = 20; "
            + "count(3) = 0; count(4) = 3; ways(0) = 6; " + CONIC + "finish(0) = -103");
    }

    private static void ways() {
        promise(22, "ways(2) = -102; ways(-1) = -102; ways(0) = -103; " + ZERO + "ways(1) = -103; count(8) = 0");
        promise(22, GRID2 + "ways(0) = 6; ways(1) = 2; pick(0) = 1; ways(0) = 2; gather(0) = 1; ways(1) = 1; "
            + "ways(0) = 2; count(8) = 5; count(3) = 1; count(4) = 1");
        promise(22, GRID5 + "ways(0) = 720; ways(1) = 2; pick(0) = 1; ways(0) = 120; finish(0) = 5; ways(0) = 1");
        promise(22, "text 3:0100/000/01/0; form() = 40; ways(0) = 24; ways(1) = 2");
        promise(22, KLEIN + "ways(0) = 56; ways(1) = 0; pick(0) = 1; ways(0) = 8; gather(0) = 1; ways(1) = 0");
        promise(22, ELLIPTIC6 + "ways(0) = 0; ways(1) = 200; gather(44) = 1; ways(1) = 40");
        promise(22, PARABOLIC3 + "ways(0) = 36; ways(1) = 0");
        promise(22, PARABOLIC2 + "ways(0) = 6; ways(1) = 6");
        promise(22, ELLIPTIC5 + "ways(0) = 1; ways(1) = 1; pick(6) = 1; ways(0) = 1; finish(0) = 25; ways(0) = 1");
    }

    private static void waysLimit() {
        promise(22, "ways(0) = -103; " + GRID2 + "ways(2) = -102; " + repeated("ways(0) = 6", 6)
            + repeated("ways(1) = 2", 5) + "count(8) = 11; ways(-1) = -102; " + ZERO + "ways(0) = -103; count(8) = 11; "
            + PARABOLIC3 + "ways(1) = 0; count(8) = 12; ways(1) = -103; ways(0) = -103; ways(2) = -102; "
            + "count(8) = 12; finish(0) = 10");
    }

    private static void put() {
        promise(23, "put(0, 0, 0) = -101; put(0, 0, 9) = -101; text 3:012/10/2; form() = 13; put(0, 2, 1) = 2; "
            + "coefficient(0, 2) = 1; coefficient(2, 0) = 1; put(2, 0, 2) = 1; coefficient(0, 2) = 2; "
            + "put(2, 2, 0) = 2; coefficient(2, 2) = 0; put(0, 0, 3) = -102; put(0, 0, -1) = -102; put(3, 0, 0) = -101; "
            + "put(0, 3, 0) = -101; put(-1, 0, 0) = -101; put(0, -1, 5) = -101; coefficient(0, 0) = 0; "
            + "put(0, 0, 2) = 0; coefficient(0, 0) = 2");
        promise(23, CONE5 + "about(4) = 1; put(3, 3, 2) = 0; about(4) = 0; about(5) = 2; flats(1) = 26; "
            + "put(3, 3, 1) = 2; about(5) = 1; flats(2) = 12; put(3, 3, 0) = 1; flats(1) = -103");
    }

    private static void swap() {
        promise(24, "swap(0, 1) = -101; text 5:0123/123/34/1; form() = 156; about(3) = 36; swap(0, 2) = 36; "
            + "coefficient(0, 0) = 3; coefficient(2, 2) = 0; coefficient(0, 2) = 2; coefficient(0, 1) = 2; "
            + "coefficient(1, 2) = 1; coefficient(0, 3) = 4; coefficient(2, 3) = 3; coefficient(1, 1) = 1; "
            + "coefficient(1, 3) = 3; coefficient(3, 3) = 1; swap(1, 1) = -101; swap(0, 4) = -101; swap(4, 0) = -101; "
            + "swap(-1, 0) = -101; swap(0, -1) = -101; coefficient(0, 0) = 3");
        promise(24, "text 5:0123/123/34/1; form() = 156; swap(3, 1) = 36; coefficient(0, 1) = 3; coefficient(0, 3) = 1; "
            + "coefficient(0, 2) = 2; coefficient(1, 2) = 4; coefficient(2, 3) = 2; coefficient(1, 3) = 3; "
            + "coefficient(1, 1) = 1; coefficient(3, 3) = 1; coefficient(0, 0) = 0");
    }

    private static void plus() {
        promise(25, "plus(0, 1, 0) = -101; plus(0, 0, 9) = -101; text 5:1234/123/34/1; form() = 156; plus(0, 2, 3); "
            + "coefficient(0, 0) = 1; coefficient(0, 1) = 2; coefficient(0, 2) = 4; coefficient(0, 3) = 4; "
            + "coefficient(1, 1) = 1; coefficient(1, 2) = 3; coefficient(1, 3) = 3; coefficient(2, 2) = 1; "
            + "coefficient(2, 3) = 1; coefficient(3, 3) = 1; plus(0, 0, 1) = -101; plus(0, 4, 1) = -101; "
            + "plus(4, 0, 1) = -101; plus(-1, 0, 1) = -101; plus(0, -1, 9) = -101; plus(0, 1, 5) = -102; "
            + "plus(0, 1, -1) = -102; plus(1, 0, 0); coefficient(0, 0) = 1; coefficient(0, 1) = 2");
        promise(25, "text 5:1234/123/34/1; form() = 156; plus(3, 1, 2); coefficient(0, 1) = 0; coefficient(0, 3) = 4; "
            + "coefficient(1, 1) = 1; coefficient(1, 2) = 0; coefficient(1, 3) = 2; coefficient(3, 3) = 1; coefficient(2, 3) = 4");
        promise(25, GRID2 + "plus(0, 2, 1) = 9; coefficient(1, 2) = 1; coefficient(0, 1) = 1; coefficient(0, 2) = 0; "
            + "plus(0, 1, 1) = 9; coefficient(1, 1) = 1; plus(0, 1, 2) = -102; about(5) = 1");
    }

    private static void scale() {
        promise(26, "scale(0, 1) = -101; text 5:1234/123/34/1; form() = 156; about(3) = 36; scale(1, 3) = 36; "
            + "coefficient(0, 1) = 1; coefficient(1, 1) = 4; coefficient(1, 2) = 1; coefficient(1, 3) = 4; "
            + "coefficient(0, 0) = 1; coefficient(2, 3) = 4; scale(1, 0) = -102; scale(1, 5) = -102; scale(1, -1) = -102; "
            + "scale(4, 1) = -101; scale(-1, 0) = -101; scale(4, 0) = -101; scale(0, 4) = 36; coefficient(0, 0) = 1");
        promise(26, CONIC + "scale(0, 1) = 3; scale(0, 2) = -102; scale(0, 0) = -102; scale(3, 1) = -101");
    }

    private static void times() {
        promise(27, "times(1) = -103; times(0) = -103; text 3:100/10/2; form() = 13; about(6) = 1; times(2) = -1; "
            + "coefficient(0, 0) = 2; coefficient(2, 2) = 1; times(0) = -102; times(3) = -102; times(-1) = -102; "
            + "times(2) = 1; coefficient(2, 2) = 2; times(1) = 1");
        promise(27, "text 5:100/10/2; form() = 31; about(6) = 1; times(2) = -1; times(4) = -1; times(3) = 1; times(5) = -102");
        promise(27, CONIC + "times(1) = 0; times(2) = -102; " + CONE5 + "times(3) = 0; coefficient(0, 0) = 3");
    }

    private static void imageAndRestore() {
        promise(28, "image() = -103; restore() = -103; " + GRID2 + "image() = 15; put(0, 0, 1) = 0; image() = 15; "
            + "put(0, 0, 0) = 1; restore() = 15; coefficient(0, 0) = 1");
        promise(29, "restore() = -103; " + GRID5 + "restore() = -103; image() = 156; " + CONIC + "pick(1) = 1; "
            + "letter(50) = 1; restore() = 156; about(0) = 5; about(1) = 4; about(3) = 36; count(3) = 0; count(5) = 1; "
            + "count(6) = 2; point(155, 3) = 4; value(155) = 0; swap(0, 2) = 36; plus(0, 1, 1) = 36; restore() = 156; "
            + "coefficient(0, 1) = 1; coefficient(0, 0) = 0; coefficient(1, 1) = 0");
        promise(29, ZERO + "image() = 7; " + KLEIN + "flats(3) = 30; restore() = 7; about(4) = 7; flats(3) = -103");
    }

    private static void like() {
        promise(30, "like() = -103; " + GRID2 + "like() = -103; image() = 15; like() = 1; plus(0, 1, 1) = 9; like() = 1; "
            + ELLIPTIC2 + "like() = 0; " + CONIC + "like() = 0; " + "text 3:0100/000/01/0; form() = 40; like() = 0; "
            + ZERO + "like() = 0; image() = 7; like() = 0; " + CONIC + "like() = 0");
        promise(30, "text 3:100/10/2; form() = 13; image() = 13; times(2) = -1; like() = 0; times(2) = 1; like() = 1; "
            + "text 5:100/10/2; form() = 31; about(6) = 1; like() = 0");
    }

    private static void drawn() {
        promise(31, "drawn(1, 0, 0) = -103; drawn(0, 0, 0) = -102; drawn(101, 0, 0) = -102; drawn(1, -1, 0) = -102; "
            + "drawn(1, 0, 3) = -102; drawn(1, 0, -1) = -102; drawn(-1, 0, 0) = -102");
        promise(31, ZERO + "drawn(1, 0, 0) = 2; drawn(100, 0, 0) = 200; drawn(1, 0, 2) = 1406932606; drawn(0, 0, 0) = -102; "
            + "drawn(101, 0, 2) = -102; drawn(1, -1, 2) = -102; drawn(1, 0, 3) = -102; drawn(1, 2147483647, 2); count(3) = 0");
        promise(31, "text 3:01000/0000/010/00/1; form() = 121; times(2) = 1; swap(0, 4) = 40; scale(1, 2) = 40; "
            + "drawn(100, 7, 0) = 62; drawn(100, 7, 1) = 0; drawn(100, 7, 2) = 1402926143; drawn(100, 7, 0) = 62");
        // first 12345 / 65536 = 0, then 1406932606 / 65536 = 21468 = 6 modulo 7: the points 0 and 6
        promise(31, ZERO + "drawn(1, 0, 1) = 1; put(2, 2, 1) = 0; value(0) = 1; value(6) = 1; drawn(1, 0, 0) = 0; drawn(1, 0, 1) = 0");
    }

    private static void count() {
        promise(32, "count(-1) = -102; count(9) = -102; " + GRID2 + "count(0) = 15; count(1) = 9; count(2) = 6; "
            + "pick(0) = 1; gather(0) = 1; gather(1) = -103; letter(50) = 1; letter(58) = 2; finish(0) = 2; "
            + "finish(1) = 2; ways(0) = 1; count(3) = 3; count(4) = 3; count(5) = 2; count(6) = 1; count(7) = 2; "
            + "count(8) = 1; form() = -103; count(6) = 1; count(9) = -102; count(-2147483648) = -102");
        promise(32, ZERO + "count(0) = 7; count(1) = 7; count(2) = 0; " + CONE5 + "count(1) = 31; count(2) = 0; count(6) = 2; "
            + ELLIPTIC5 + "count(2) = 26; " + KLEIN + "count(2) = 30; " + ELLIPTIC6 + "count(2) = 45; count(6) = 5");
    }

    private static void digest() {
        long h = 1499;
        for (int what = 0; what <= 8; what++) {
            h = 31 * h;
        }
        Script.due("promise 33: a new object", new QuadricFlats().digest(), h);
        String[] starts = {CONIC, ZERO, CONE5, GRID5, KLEIN + "pick(0); pick(1); gather(29); "};
        for (String start : starts) {
            digest(start, "");
        }
        digest(ELLIPTIC6 + "finish(1); letter(126); letter(32); ", "~ ");
        digest(PARABOLIC3 + "finish(0); drop(0); ways(1); text 3:; ", "3:");
        digest("letter(50); letter(126)", "2~");
    }

    private static void digest(String start, String page) {
        QuadricFlats x = Script.run("promise 33", start);
        long sum = x.digest();
        Script.due("promise 33: " + start, sum, Checksum.of(x, page));
        Script.due("promise 33: again " + start, x.digest(), sum);
    }

    /** The lists are emptied by every change of the form that succeeds, and by no other call. */
    private static void emptiedLists() {
        String lists = GRID2 + "image() = 15; pick(0) = 1; gather(0) = 1; ";
        String[] changes = {"text 2:010/00/1; form() = 7", "put(0, 0, 0) = 0", "swap(0, 1) = 9", "plus(0, 1, 0) = 9",
            "scale(0, 1) = 9", "times(1) = 0", "restore() = 15"};
        for (String change : changes) {
            Script.run("lists", lists + change + "; count(3) = 0; count(4) = 0; chosen(0, 0) = -101; drop(1) = -103");
        }
        String[] refusals = {"form() = -103", "put(0, 0, 2) = -102", "put(4, 0, 0) = -101", "swap(0, 0) = -101",
            "plus(0, 1, 2) = -102", "scale(0, 0) = -102", "times(0) = -102", "image() = 15", "like() = 1", "fault() = 0",
            "blank() = 0", "drawn(100, 1, 1)", "ways(0) = 2", "digest()"};
        for (String refusal : refusals) {
            Script.run("lists", lists + refusal + "; chosen(0, 0) = 0; chosen(1, 0) = 0; count(3) = 1; count(4) = 1");
        }
    }
}
