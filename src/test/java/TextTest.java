import java.util.ArrayList;
import java.util.List;

/**
 * The texts of forms, character by character: behind each beginning of a text each of the 95 characters is tried.
 * What is due comes from the nine shapes that a text can have, 'd' standing for a digit below P.
 */
public final class TextTest {
    private static final int[][] SPACES = {{2, 3}, {2, 4}, {2, 5}, {2, 6}, {3, 3}, {3, 4}, {3, 5}, {5, 3}, {5, 4}};

    public static void main(String[] args) {
        for (int[] space : SPACES) {
            for (int digit = 0; digit < space[0]; digit++) {
                everyPlace(shape(space).replace('d', (char) ('0' + digit)));
            }
            Script.due("points of " + shape(space), read(shape(space).replace('d', '0')), points(space));
        }
        wrongPrimes();
        wrongNumbersOfVariables();
        oneRowWrong();
        Script.end();
    }

    private static String shape(int[] space) {
        StringBuilder text = new StringBuilder().append(space[0]).append(':');
        for (int length = space[1]; length >= 1; length--) {
            text.append("d".repeat(length)).append(length > 1 ? "/" : "");
        }
        return text.toString();
    }

    private static int points(int[] space) {
        int sum = 0;
        for (int i = 0, power = 1; i < space[1]; i++, power *= space[0]) {
            sum += power;
        }
        return sum;
    }

    private static boolean begins(String shape, String page) {
        if (page.length() > shape.length()) {
            return false;
        }
        for (int i = 0; i < page.length(); i++) {
            int digit = page.charAt(i) - '0';
            boolean isDigit = digit >= 0 && digit < shape.charAt(0) - '0';
            if (shape.charAt(i) == 'd' ? !isDigit : shape.charAt(i) != page.charAt(i)) {
                return false;
            }
        }
        return true;
    }

    private static List<String> shapesOf(String page) {
        List<String> result = new ArrayList<>();
        for (int[] space : SPACES) {
            if (begins(shape(space), page)) {
                result.add(shape(space));
            }
        }
        return result;
    }

    private static QuadricFlats typed(String page) {
        QuadricFlats x = new QuadricFlats();
        Script.type(x, page);
        return x;
    }

    private static int read(String page) {
        return typed(page).form();
    }

    private static void everyPlace(String text) {
        for (int length = 0; length <= text.length(); length++) {
            String page = text.substring(0, length);
            complete(page);
            for (char sign = 32; sign <= 126 && length < 28; sign++) {
                QuadricFlats x = typed(page + sign);
                boolean fits = !shapesOf(page + sign).isEmpty();
                Script.due("fault of " + page + sign, x.fault(), fits ? length + 1 : length);
            }
        }
    }

    /** form() reads a page that has a whole shape, and refuses one that ends too early and keeps it. */
    private static void complete(String page) {
        QuadricFlats x = typed(page);
        Script.due("fault of " + page, x.fault(), page.length());
        boolean whole = false;
        for (String shape : shapesOf(page)) {
            whole |= shape.length() == page.length();
        }
        Script.due("form of " + page, x.form() > 0 ? 1 : 0, whole ? 1 : 0);
        Script.due("page after form of " + page, x.count(5), whole ? 0 : page.length());
        Script.due("forms read from " + page, x.count(6), whole ? 1 : 0);
    }

    private static void refused(String page, int fault) {
        QuadricFlats x = typed(page);
        Script.due("fault of " + page, x.fault(), fault);
        Script.due("form of " + page, x.form(), -103);
        Script.due("page after form of " + page, x.count(5), page.length());
        Script.due("no form from " + page, x.about(0), -103);
    }

    /** "A form has a prime P (2, 3 or 5)" */
    private static void wrongPrimes() {
        for (char sign = 32; sign <= 126; sign++) {
            if (sign != '2' && sign != '3' && sign != '5') {
                refused(sign + ":000/00/0", 0);
            }
        }
    }

    /** "N variables (3 to 6 if P is 2, 3 to 5 if P is 3, 3 or 4 if P is 5)" */
    private static void wrongNumbersOfVariables() {
        for (int prime : new int[] {2, 3, 5}) {
            refused(prime + ":0", 3);
            refused(prime + ":/0", 2);
            refused(prime + ":0/", 3);
            refused(prime + ":00/0", 4);
        }
        refused("2:0000000/000000/00000/0000/", 8);
        refused("3:000000/00000/0000/000/00/0", 7);
        refused("5:00000/0000/000/00/0", 6);
    }

    /** "row i consists of the digits c(i, i) to c(i, N - 1)": one digit more or less in one row. */
    private static void oneRowWrong() {
        for (int[] space : SPACES) {
            String text = shape(space).replace('d', '0');
            int end = 2;
            for (int length = space[1]; length >= 1; length--) {
                end += length;
                if (length < space[1]) {
                    String shorter = text.substring(0, end - 1) + text.substring(end);
                    refused(shorter, length == 1 ? shorter.length() : end - 1);
                    if (text.length() < 28) {
                        refused(text.substring(0, end) + "0" + text.substring(end), end);
                    }
                }
                end++;
            }
            if (text.length() < 28) {
                refused(text + "/", text.length());
                refused(text + " ", text.length());
            }
        }
    }
}
