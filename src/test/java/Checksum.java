import java.math.BigInteger;

/**
 * The checksum of promise 33, added up from the answers of the other methods with whole numbers of any length,
 * which are cut to 64 bits only at the end: "with overflow". The page's characters can't be asked and are given.
 */
final class Checksum {
    private Checksum() {
    }

    static long of(QuadricFlats x, String page) {
        BigInteger h = BigInteger.valueOf(1499);
        if (x.about(0) > 0) {
            h = addedForm(x, h);
        }
        if (x.flats(1) > 0) {
            h = addedFlats(x, h);
        }
        for (int of = 0; of <= 1; of++) {
            for (int place = 0; place < x.count(3 + of); place++) {
                h = add(h, x.chosen(of, place));
            }
        }
        for (char sign : page.toCharArray()) {
            h = add(h, sign);
        }
        for (int what = 0; what <= 8; what++) {
            h = add(h, x.count(what));
        }
        return h.longValue();
    }

    private static BigInteger add(BigInteger h, int value) {
        return h.multiply(BigInteger.valueOf(31)).add(BigInteger.valueOf(value));
    }

    private static BigInteger addedForm(QuadricFlats x, BigInteger start) {
        BigInteger h = start;
        for (int what = 0; what <= 7; what++) {
            h = add(h, x.about(what));
        }
        int variables = x.about(1);
        for (int i = 0; i < variables; i++) {
            for (int j = i; j < variables; j++) {
                h = add(h, x.coefficient(i, j));
            }
        }
        int points = x.about(2);
        for (int point = 0; point < points; point++) {
            h = add(h, x.value(point));
        }
        return h;
    }

    private static BigInteger addedFlats(QuadricFlats x, BigInteger start) {
        BigInteger h = start;
        for (int degree = 1; degree <= 3; degree++) {
            h = add(h, x.flats(degree));
        }
        int prime = x.about(0);
        int index = x.about(7);
        int size = index == 1 ? 1 : index == 2 ? 1 + prime : 1 + prime + prime * prime;
        int greatest = x.count(2);
        for (int flat = 0; flat < greatest; flat++) {
            for (int place = 0; place < size; place++) {
                h = add(h, x.flat(index, flat, place));
            }
        }
        return add(add(h, x.left(0)), x.left(1));
    }
}
