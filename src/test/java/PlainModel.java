import java.util.ArrayList;
import java.util.HashMap;
import java.util.List;
import java.util.Map;
import java.util.TreeSet;
import java.util.regex.Matcher;
import java.util.regex.Pattern;

/**
 * The document once more, word by word, slowly and with nothing of the class's own ways: sets of points
 * instead of bits, whole lines instead of polar values, a text's pattern instead of a reading.
 */
final class PlainModel {
    static final int NONE = -1, UNKNOWN = -101, OUTSIDE = -102, STATE = -103, FULL = -104;

    private static final Map<String, Facts> MEMORY = new HashMap<>();

    private String page = "";
    private Facts now;
    private Facts image;
    private final List<Integer> picked = new ArrayList<>();
    private final List<Integer> gathered = new ArrayList<>();
    private int read, finishes, wayCalls;

    /** What follows from a form alone. */
    static final class Facts {
        final int p, n;
        final int[][] c;
        final List<int[]> points = new ArrayList<>();
        final Map<List<Integer>, Integer> numberOf = new HashMap<>();
        final TreeSet<Integer> on = new TreeSet<>();
        int singular;
        List<List<List<Integer>>> flats;
        int index = NONE;
        final Map<String, List<TreeSet<Integer>>> completions = new HashMap<>();

        Facts(int p, int n, int[][] c) {
            this.p = p;
            this.n = n;
            this.c = c;
            int all = (int) Math.round(Math.pow(p, n));
            for (int code = 0; code < all; code++) {
                int[] x = new int[n];
                for (int i = n - 1, rest = code; i >= 0; i--, rest /= p) {
                    x[i] = rest % p;
                }
                if (leads(x) == 1) {
                    numberOf.put(list(x), points.size());
                    points.add(x);
                }
            }
            for (int point = 0; point < points.size(); point++) {
                if (value(points.get(point)) == 0) {
                    on.add(point);
                }
            }
            for (int point : on) {
                boolean all0 = true;
                for (int[] y : points) {
                    all0 &= polar(points.get(point), y) == 0;
                }
                singular += all0 ? 1 : 0;
            }
            if (singular == 0) {
                findFlats();
            }
        }

        static int leads(int[] x) {
            for (int number : x) {
                if (number != 0) {
                    return number;
                }
            }
            return 0;
        }

        static List<Integer> list(int[] x) {
            List<Integer> result = new ArrayList<>();
            for (int number : x) {
                result.add(number);
            }
            return result;
        }

        int value(int[] x) {
            int sum = 0;
            for (int i = 0; i < n; i++) {
                for (int j = i; j < n; j++) {
                    sum += c[i][j] * x[i] * x[j];
                }
            }
            return sum % p;
        }

        int polar(int[] x, int[] y) {
            return Math.floorMod(value(combine(1, x, 1, y)) - value(x) - value(y), p);
        }

        int[] combine(int a, int[] x, int b, int[] y) {
            int[] result = new int[n];
            for (int i = 0; i < n; i++) {
                result[i] = (a * x[i] + b * y[i]) % p;
            }
            return result;
        }

        int pointOf(int[] x) {
            for (int factor = 1; factor < p; factor++) {
                int[] multiple = combine(factor, x, 0, x);
                if (leads(multiple) == 1) {
                    return numberOf.get(list(multiple));
                }
            }
            throw new IllegalStateException("no point");
        }

        TreeSet<Integer> line(int one, int other) {
            TreeSet<Integer> result = new TreeSet<>();
            for (int a = 0; a < p; a++) {
                for (int b = 0; b < p; b++) {
                    if (a != 0 || b != 0) {
                        result.add(pointOf(combine(a, points.get(one), b, points.get(other))));
                    }
                }
            }
            return result;
        }

        boolean collinear(int one, int other) {
            return one != other && on.contains(one) && on.contains(other) && on.containsAll(line(one, other));
        }

        private void findFlats() {
            TreeSet<List<Integer>> one = sorted(), two = sorted(), three = sorted();
            for (int x : on) {
                one.add(List.of(x));
                for (int y : on) {
                    if (x < y) {
                        TreeSet<Integer> line = line(x, y);
                        if (on.containsAll(line)) {
                            two.add(new ArrayList<>(line));
                        }
                    }
                }
            }
            for (List<Integer> line : two) {
                for (int x : on) {
                    if (!line.contains(x)) {
                        TreeSet<Integer> plane = new TreeSet<>();
                        for (int y : line) {
                            plane.addAll(line(x, y));
                        }
                        if (on.containsAll(plane)) {
                            three.add(new ArrayList<>(plane));
                        }
                    }
                }
            }
            flats = List.of(new ArrayList<>(one), new ArrayList<>(two), new ArrayList<>(three));
            for (int degree = 1; degree <= 3; degree++) {
                index = flats.get(degree - 1).isEmpty() ? index : degree;
            }
        }

        private static TreeSet<List<Integer>> sorted() {
            return new TreeSet<>((a, b) -> {
                for (int i = 0; i < Math.min(a.size(), b.size()); i++) {
                    if (!a.get(i).equals(b.get(i))) {
                        return a.get(i) - b.get(i);
                    }
                }
                return a.size() - b.size();
            });
        }

        List<List<Integer>> greatest() {
            return flats.get(index - 1);
        }

        int type() {
            if (singular > 0) {
                return 3;
            }
            if (n % 2 == 1) {
                return 0;
            }
            return index == n / 2 ? 1 : 2;
        }

        int discriminant() {
            if (p == 2) {
                return 0;
            }
            int[][] m = new int[n][n];
            for (int i = 0; i < n; i++) {
                for (int j = 0; j < n; j++) {
                    m[i][j] = i == j ? 2 * c[i][i] : c[Math.min(i, j)][Math.max(i, j)];
                }
            }
            long d = Math.floorMod(expand(m, 0, 0), (long) p);
            if (d == 0) {
                return 0;
            }
            for (int t = 0; t < p; t++) {
                if (t * t % p == d) {
                    return 1;
                }
            }
            return -1;
        }

        private long expand(int[][] m, int row, int usedColumns) {
            if (row == n) {
                return 1;
            }
            long sum = 0;
            int sign = 1;
            for (int j = 0; j < n; j++) {
                if ((usedColumns & 1 << j) == 0) {
                    sum += sign * m[row][j] * expand(m, row + 1, usedColumns | 1 << j);
                    sign = -sign;
                }
            }
            return sum;
        }

        /** All ovoids (points) or spreads (numbers of maximal flats) that hold the given ones. */
        List<TreeSet<Integer>> completions(int of, List<Integer> given) {
            String key = of + ":" + new TreeSet<>(given);
            return completions.computeIfAbsent(key, k -> {
                List<TreeSet<Integer>> result = new ArrayList<>();
                for (TreeSet<Integer> set : of == 0 ? ovoids() : spreads()) {
                    if (set.containsAll(given)) {
                        result.add(set);
                    }
                }
                return result;
            });
        }

        private List<TreeSet<Integer>> allOvoids, allSpreads;

        private List<TreeSet<Integer>> ovoids() {
            if (allOvoids == null) {
                allOvoids = new ArrayList<>();
                growOvoid(0, new TreeSet<>());
            }
            return allOvoids;
        }

        private void growOvoid(int flat, TreeSet<Integer> chosen) {
            if (flat == greatest().size()) {
                allOvoids.add(new TreeSet<>(chosen));
                return;
            }
            int inside = meet(greatest().get(flat), chosen);
            if (inside == 1) {
                growOvoid(flat + 1, chosen);
            }
            if (inside == 0) {
                for (int x : greatest().get(flat)) {
                    chosen.add(x);
                    boolean good = true;
                    for (List<Integer> other : greatest()) {
                        good &= meet(other, chosen) <= 1;
                    }
                    if (good) {
                        growOvoid(flat + 1, chosen);
                    }
                    chosen.remove(x);
                }
            }
        }

        private static int meet(List<Integer> flat, TreeSet<Integer> chosen) {
            int common = 0;
            for (int x : flat) {
                common += chosen.contains(x) ? 1 : 0;
            }
            return common;
        }

        private List<TreeSet<Integer>> spreads() {
            if (allSpreads == null) {
                allSpreads = new ArrayList<>();
                growSpread(new TreeSet<>(on), new TreeSet<>());
            }
            return allSpreads;
        }

        private void growSpread(TreeSet<Integer> missing, TreeSet<Integer> chosen) {
            if (missing.isEmpty()) {
                allSpreads.add(new TreeSet<>(chosen));
                return;
            }
            int x = missing.first();
            for (int g = 0; g < greatest().size(); g++) {
                List<Integer> flat = greatest().get(g);
                if (flat.contains(x) && missing.containsAll(flat)) {
                    missing.removeAll(flat);
                    chosen.add(g);
                    growSpread(missing, chosen);
                    chosen.remove(g);
                    missing.addAll(flat);
                }
            }
        }

        static boolean isBefore(TreeSet<Integer> a, TreeSet<Integer> b) {
            TreeSet<Integer> onlyA = new TreeSet<>(a), onlyB = new TreeSet<>(b);
            onlyA.removeAll(b);
            onlyB.removeAll(a);
            return !onlyA.isEmpty() && (onlyB.isEmpty() || onlyA.first() < onlyB.first());
        }
    }

    private static Facts facts(int p, int n, int[][] c) {
        String key = p + java.util.Arrays.deepToString(c);
        if (MEMORY.size() > 20000) {
            MEMORY.clear();
        }
        return MEMORY.computeIfAbsent(key, k -> new Facts(p, n, c));
    }

    private static String pattern(int p, int n) {
        StringBuilder text = new StringBuilder(p + ":");
        for (int length = n; length >= 1; length--) {
            text.append("[0-").append(p - 1).append("]{").append(length).append(length > 1 ? "}/" : "}");
        }
        return text.toString();
    }

    private static final List<Pattern> TEXTS = new ArrayList<>();

    static {
        int[][] spaces = {{2, 3}, {2, 4}, {2, 5}, {2, 6}, {3, 3}, {3, 4}, {3, 5}, {5, 3}, {5, 4}};
        for (int[] space : spaces) {
            TEXTS.add(Pattern.compile(pattern(space[0], space[1])));
        }
    }

    private static boolean begins(String prefix) {
        for (Pattern text : TEXTS) {
            Matcher matcher = text.matcher(prefix);
            if (matcher.matches() || matcher.hitEnd()) {
                return true;
            }
        }
        return false;
    }

    int letter(int code) {
        if (code < 32 || code > 126) {
            return OUTSIDE;
        }
        if (page.length() == 28) {
            return FULL;
        }
        page += (char) code;
        return page.length();
    }

    int blank() {
        int had = page.length();
        page = "";
        return had;
    }

    int fault() {
        for (int place = 0; place < page.length(); place++) {
            if (!begins(page.substring(0, place + 1))) {
                return place;
            }
        }
        return page.length();
    }

    int form() {
        for (Pattern text : TEXTS) {
            if (text.matcher(page).matches()) {
                String[] rows = page.substring(2).split("/");
                int n = rows.length;
                int[][] c = new int[n][n];
                for (int i = 0; i < n; i++) {
                    for (int j = i; j < n; j++) {
                        c[i][j] = rows[i].charAt(j - i) - '0';
                    }
                }
                become(facts(page.charAt(0) - '0', n, c));
                page = "";
                read++;
                return now.points.size();
            }
        }
        return STATE;
    }

    private void become(Facts facts) {
        now = facts;
        picked.clear();
        gathered.clear();
    }

    private boolean nonsingular() {
        return now != null && now.singular == 0;
    }

    private boolean hasPoint(int point) {
        return now != null && point >= 0 && point < now.points.size();
    }

    private boolean hasVariable(int i) {
        return now != null && i >= 0 && i < now.n;
    }

    int about(int what) {
        if (what < 0 || what > 7) {
            return OUTSIDE;
        }
        if (now == null) {
            return STATE;
        }
        int[] all = {now.p, now.n, now.points.size(), now.on.size(), now.singular, now.type(),
            now.discriminant(), now.index};
        return all[what];
    }

    int coefficient(int i, int j) {
        return hasVariable(i) && hasVariable(j) ? now.c[Math.min(i, j)][Math.max(i, j)] : UNKNOWN;
    }

    int point(int point, int i) {
        return hasPoint(point) && hasVariable(i) ? now.points.get(point)[i] : UNKNOWN;
    }

    int value(int point) {
        return hasPoint(point) ? now.value(now.points.get(point)) : UNKNOWN;
    }

    int polar(int one, int other) {
        if (!hasPoint(one) || !hasPoint(other)) {
            return UNKNOWN;
        }
        return now.polar(now.points.get(one), now.points.get(other));
    }

    int joined(int one, int other) {
        if (!hasPoint(one) || !hasPoint(other)) {
            return UNKNOWN;
        }
        return now.collinear(one, other) ? 1 : 0;
    }

    int section(int point, int what) {
        if (!hasPoint(point)) {
            return UNKNOWN;
        }
        if (what != 0 && what != 1) {
            return OUTSIDE;
        }
        TreeSet<Integer> section = new TreeSet<>();
        for (int x = 0; x < now.points.size(); x++) {
            int sum = 0;
            for (int i = 0; i < now.n; i++) {
                sum += now.points.get(point)[i] * now.points.get(x)[i];
            }
            if (sum % now.p == 0) {
                section.add(x);
            }
        }
        if (what == 0) {
            section.retainAll(now.on);
            return section.size();
        }
        for (int x : now.on) {
            TreeSet<Integer> tangent = new TreeSet<>();
            for (int y = 0; y < now.points.size(); y++) {
                if (now.polar(now.points.get(x), now.points.get(y)) == 0) {
                    tangent.add(y);
                }
            }
            if (tangent.size() < now.points.size() && tangent.equals(section)) {
                return x;
            }
        }
        return NONE;
    }

    int flats(int degree) {
        if (degree < 1 || degree > 3) {
            return OUTSIDE;
        }
        return nonsingular() ? now.flats.get(degree - 1).size() : STATE;
    }

    int flat(int degree, int flat, int place) {
        if (degree < 1 || degree > 3) {
            return OUTSIDE;
        }
        if (!nonsingular()) {
            return STATE;
        }
        List<List<Integer>> all = now.flats.get(degree - 1);
        if (flat < 0 || flat >= all.size() || place < 0 || place >= all.get(flat).size()) {
            return UNKNOWN;
        }
        return all.get(flat).get(place);
    }

    int near(int point, int greatest, int what) {
        if (!nonsingular()) {
            return STATE;
        }
        if (!now.on.contains(point) || greatest < 0 || greatest >= now.greatest().size()) {
            return UNKNOWN;
        }
        if (what != 0 && what != 1) {
            return OUTSIDE;
        }
        int number = 0;
        int lowest = NONE;
        for (int x : now.greatest().get(greatest)) {
            if (x == point || now.collinear(x, point)) {
                number++;
                lowest = lowest == NONE ? x : lowest;
            }
        }
        return what == 0 ? number : lowest;
    }

    int pick(int point) {
        if (!nonsingular()) {
            return STATE;
        }
        if (!now.on.contains(point)) {
            return UNKNOWN;
        }
        for (int other : picked) {
            for (List<Integer> flat : now.greatest()) {
                if (other == point || flat.contains(point) && flat.contains(other)) {
                    return STATE;
                }
            }
        }
        picked.add(point);
        return picked.size();
    }

    int gather(int greatest) {
        if (!nonsingular()) {
            return STATE;
        }
        if (greatest < 0 || greatest >= now.greatest().size()) {
            return UNKNOWN;
        }
        for (int other : gathered) {
            for (int x : now.greatest().get(other)) {
                if (now.greatest().get(greatest).contains(x)) {
                    return STATE;
                }
            }
        }
        gathered.add(greatest);
        return gathered.size();
    }

    private List<Integer> list(int of) {
        return of == 0 ? picked : gathered;
    }

    int drop(int of) {
        if (of != 0 && of != 1) {
            return OUTSIDE;
        }
        return list(of).isEmpty() ? STATE : list(of).remove(list(of).size() - 1);
    }

    int chosen(int of, int place) {
        if (of != 0 && of != 1) {
            return OUTSIDE;
        }
        return place < 0 || place >= list(of).size() ? UNKNOWN : list(of).get(place);
    }

    int left(int of) {
        if (of != 0 && of != 1) {
            return OUTSIDE;
        }
        if (!nonsingular()) {
            return STATE;
        }
        int missing = 0;
        if (of == 0) {
            for (List<Integer> flat : now.greatest()) {
                missing += Facts.meet(flat, new TreeSet<>(picked)) == 0 ? 1 : 0;
            }
            return missing;
        }
        for (int x : now.on) {
            boolean in = false;
            for (int g : gathered) {
                in |= now.greatest().get(g).contains(x);
            }
            missing += in ? 0 : 1;
        }
        return missing;
    }

    int finish(int of) {
        if (of != 0 && of != 1) {
            return OUTSIDE;
        }
        if (!nonsingular() || finishes == 20) {
            return STATE;
        }
        finishes++;
        TreeSet<Integer> first = null;
        for (TreeSet<Integer> set : now.completions(of, list(of))) {
            first = first == null || Facts.isBefore(set, first) ? set : first;
        }
        if (first == null) {
            return NONE;
        }
        TreeSet<Integer> added = new TreeSet<>(first);
        added.removeAll(list(of));
        list(of).addAll(added);
        return added.size();
    }

    int ways(int of) {
        if (of != 0 && of != 1) {
            return OUTSIDE;
        }
        if (!nonsingular() || wayCalls == 12) {
            return STATE;
        }
        wayCalls++;
        return now.completions(of, list(of)).size();
    }

    int put(int i, int j, int v) {
        if (!hasVariable(i) || !hasVariable(j)) {
            return UNKNOWN;
        }
        if (v < 0 || v >= now.p) {
            return OUTSIDE;
        }
        int was = coefficient(i, j);
        int[][] c = new int[now.n][];
        for (int k = 0; k < now.n; k++) {
            c[k] = now.c[k].clone();
        }
        c[Math.min(i, j)][Math.max(i, j)] = v;
        become(facts(now.p, now.n, c));
        return was;
    }

    /** The new form is read off the old values: the matrix takes a new vector to the old one. */
    private int substitute(int[][] matrix) {
        int n = now.n;
        int[][] c = new int[n][n];
        for (int i = 0; i < n; i++) {
            c[i][i] = now.value(column(matrix, i));
            for (int j = i + 1; j < n; j++) {
                c[i][j] = now.polar(column(matrix, i), column(matrix, j));
            }
        }
        become(facts(now.p, n, c));
        return now.on.size();
    }

    private int[] column(int[][] matrix, int j) {
        int[] x = new int[now.n];
        for (int i = 0; i < now.n; i++) {
            x[i] = matrix[i][j];
        }
        return x;
    }

    private int[][] unit() {
        int[][] matrix = new int[now.n][now.n];
        for (int i = 0; i < now.n; i++) {
            matrix[i][i] = 1;
        }
        return matrix;
    }

    int swap(int i, int j) {
        if (!hasVariable(i) || !hasVariable(j) || i == j) {
            return UNKNOWN;
        }
        int[][] matrix = unit();
        int[] row = matrix[i];
        matrix[i] = matrix[j];
        matrix[j] = row;
        return substitute(matrix);
    }

    int plus(int i, int j, int c) {
        if (!hasVariable(i) || !hasVariable(j) || i == j) {
            return UNKNOWN;
        }
        if (c < 0 || c >= now.p) {
            return OUTSIDE;
        }
        int[][] matrix = unit();
        matrix[i][j] = c;
        return substitute(matrix);
    }

    int scale(int i, int c) {
        if (!hasVariable(i)) {
            return UNKNOWN;
        }
        if (c < 1 || c >= now.p) {
            return OUTSIDE;
        }
        int[][] matrix = unit();
        matrix[i][i] = c;
        return substitute(matrix);
    }

    int times(int c) {
        if (now == null) {
            return STATE;
        }
        if (c < 1 || c >= now.p) {
            return OUTSIDE;
        }
        int[][] cells = new int[now.n][now.n];
        for (int i = 0; i < now.n; i++) {
            for (int j = i; j < now.n; j++) {
                cells[i][j] = c * now.c[i][j] % now.p;
            }
        }
        become(facts(now.p, now.n, cells));
        return now.discriminant();
    }

    int image() {
        if (now == null) {
            return STATE;
        }
        image = now;
        return now.points.size();
    }

    int restore() {
        if (image == null) {
            return STATE;
        }
        become(image);
        return now.points.size();
    }

    int like() {
        if (now == null || image == null) {
            return STATE;
        }
        return now.singular == 0 && image.singular == 0 && now.p == image.p && now.n == image.n
            && now.type() == image.type() && now.discriminant() == image.discriminant() ? 1 : 0;
    }

    int drawn(int times, int seed, int what) {
        if (times < 1 || times > 100 || seed < 0 || what < 0 || what > 2) {
            return OUTSIDE;
        }
        if (now == null) {
            return STATE;
        }
        long s = seed;
        int on = 0;
        int pairs = 0;
        for (int t = 0; t < times; t++) {
            int[] drawn = new int[2];
            for (int k = 0; k < 2; k++) {
                s = java.math.BigInteger.valueOf(s).multiply(java.math.BigInteger.valueOf(1103515245L))
                    .add(java.math.BigInteger.valueOf(12345)).mod(java.math.BigInteger.valueOf(2147483648L)).longValue();
                drawn[k] = (int) (s / 65536 % now.points.size());
                on += now.on.contains(drawn[k]) ? 1 : 0;
            }
            pairs += now.collinear(drawn[0], drawn[1]) ? 1 : 0;
        }
        return what == 0 ? on : what == 1 ? pairs : (int) s;
    }

    int count(int what) {
        if (what < 0 || what > 8) {
            return OUTSIDE;
        }
        int[] all = {now == null ? 0 : now.points.size(), now == null ? 0 : now.on.size(),
            nonsingular() ? now.greatest().size() : 0, picked.size(), gathered.size(), page.length(),
            read, finishes, wayCalls};
        return all[what];
    }

    long digest() {
        List<Integer> values = new ArrayList<>();
        if (now != null) {
            for (int what = 0; what <= 7; what++) {
                values.add(about(what));
            }
            for (int i = 0; i < now.n; i++) {
                for (int j = i; j < now.n; j++) {
                    values.add(now.c[i][j]);
                }
            }
            for (int[] x : now.points) {
                values.add(now.value(x));
            }
        }
        if (nonsingular()) {
            for (int degree = 1; degree <= 3; degree++) {
                values.add(flats(degree));
            }
            for (List<Integer> flat : now.greatest()) {
                values.addAll(flat);
            }
            values.add(left(0));
            values.add(left(1));
        }
        values.addAll(picked);
        values.addAll(gathered);
        for (char sign : page.toCharArray()) {
            values.add((int) sign);
        }
        for (int what = 0; what <= 8; what++) {
            values.add(count(what));
        }
        long h = 1499;
        for (int number : values) {
            h = 31 * h + number;
        }
        return h;
    }
}
