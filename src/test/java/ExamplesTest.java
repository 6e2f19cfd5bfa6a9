/** The three examples of the document's Description, word for word. */
public final class ExamplesTest {
    public static void main(String[] args) {
        Script.run("example 1", "letter(50) = 1; letter(58) = 2; letter(49) = 3; letter(48) = 4; letter(48) = 5; "
            + "letter(47) = 6; letter(48) = 7; letter(49) = 8; letter(47) = 9; letter(48) = 10; fault() = 10; "
            + "form() = 7; blank() = 0; about(0) = 2; letter(31) = -102; count(5) = 0");
        Script.run("example 2", "letter(50) = 1; letter(58) = 2; letter(48) = 3; letter(49) = 4; letter(48) = 5; "
            + "letter(47) = 6; letter(48) = 7; letter(48) = 8; letter(47) = 9; letter(49) = 10; form() = 7; "
            + "about(3) = 3; about(5) = 0; flats(1) = 3; finish(0) = 3; ways(1) = 1");
        Script.run("example 3", "letter(51) = 1; letter(58) = 2; letter(49) = 3; letter(48) = 4; letter(48) = 5; "
            + "letter(47) = 6; letter(49) = 7; letter(48) = 8; letter(47) = 9; letter(50) = 10; form() = 13; "
            + "about(6) = 1; section(0, 1) = -1; plus(0, 1, 2) = 4; times(2) = -1; near(0, 0, 0) = -101");
        Script.end();
    }
}
