import java.math.BigInteger;
import java.util.ArrayList;
import java.util.List;
import java.util.regex.Matcher;
import java.util.regex.Pattern;

// Long runs of calls, the same ones each time, on the class and on a plain model of the document
// that shares no way of computing with it: lists, regular expressions, and elimination with exact
// fractions of BigInteger.
public final class ModelTests {
    private static final long INVALID = -2000000001L;
    private static final long IMPOSSIBLE = -2000000002L;
    private static final long FULL = -2000000003L;
    private static final long NOTHING = -2000000004L;

    private static final int RUNS = 1600;
    private static final int CALLS = 512;
    private static final int MOST_SHOWN = 20;

    private static int wrong = 0;
    private static int run = 0;
    private static int calls = 0;
    private static long seed = 1;

    public static void main(String[] args) {
        for (run = 0; run < RUNS && wrong < MOST_SHOWN; run++) {
            runOnce();
        }
        System.out.println(wrong == 0 ? "all answers are as due" : wrong + " answers are not as due");
        if (wrong != 0) {
            System.exit(1);
        }
    }

    /** Not from the library, so that a run told by its number is the same everywhere. */
    private static int below(int bound) {
        seed = seed * 6364136223846793005L + 1442695040888963407L;
        return (int) Math.floorMod(seed >>> 33, (long) bound);
    }

    private static int oneOf(int... choices) {
        return choices[below(choices.length)];
    }

    /** Of each call on the object of a run; what it answers beyond the last call is free. */
    private static void due(String told, long got, long want) {
        calls++;
        if (got != want && calls <= CALLS && wrong < MOST_SHOWN) {
            wrong++;
            System.out.println("run " + run + ", call " + calls + ": " + told
                    + " answered " + got + ", due is " + want);
        }
    }

    // ---- the runs

    /** What a run prefers: few sets of masses make swapped rows, wide readings make large numbers. */
    private static int rowKind;
    private static int readingKind;

    private static void runOnce() {
        WeighingDesign x = new WeighingDesign();
        Model m = new Model();
        seed = 1000003L * run + 17;
        calls = 0;
        rowKind = below(3);
        readingKind = below(3);
        if (run % 4 == 0) {
            fill(x, m);
        }
        int before = wrong;
        while (calls < CALLS && wrong == before) {
            step(x, m);
        }
    }

    /** All rows and readings, with all masses in a row and the widest readings: the largest numbers. */
    private static void fill(WeighingDesign x, Model m) {
        int pan = run % 8 / 4;
        due("set(1, " + pan + ")", x.set(1, pan), m.set(1, pan));
        int standard = oneOf(-100000, 100000);
        due("set(0, " + standard + ")", x.set(0, standard), m.set(0, standard));
        for (int tries = 0; tries < 60 && m.rows.size() < 12; tries++) {
            int left = 1 + below(30);
            due("addRow(" + left + ", ..)", x.addRow(left, 31 - left), m.addRow(left, 31 - left));
        }
        for (int row = 0; row < m.rows.size(); row++) {
            for (int n = 0; n < 6; n++) {
                int reading = below(6) == 0 ? someReading() : oneOf(-100000, 100000);
                due("take(" + row + ", " + reading + ")", x.take(row, reading), m.take(row, reading));
            }
        }
        for (int mass = 0; mass < 5; mass++) {
            due("value(" + mass + ", 0)", x.value(mass, 0), m.value(mass, 0));
            due("value(" + mass + ", 1)", x.value(mass, 1), m.value(mass, 1));
            due("balance(" + mass + ", 0)", x.balance(mass, 0), m.balance(mass, 0));
            due("balance(" + mass + ", 1)", x.balance(mass, 1), m.balance(mass, 1));
        }
        due("worst(0)", x.worst(0), m.worst(0));
        due("worst(1)", x.worst(1), m.worst(1));
        for (int row = 0; row < m.rows.size(); row++) {
            due("residual(" + row + ", 5, 0)", x.residual(row, 5, 0), m.residual(row, 5, 0));
            due("without(" + row + ", 5, 4, 0)", x.without(row, 5, 4, 0), m.without(row, 5, 4, 0));
        }
    }

    private static void step(WeighingDesign x, Model m) {
        int dice = below(100);
        if (dice < 45) {
            change(x, m);
        } else if (dice < 55) {
            text(x, m);
        } else {
            ask(x, m);
        }
    }

    private static int someRow(Model m) {
        return below(25) == 0 ? oneOf(-1, 12, 13, m.rows.size(), Integer.MAX_VALUE, Integer.MIN_VALUE)
                : below(Math.max(1, m.rows.size()));
    }

    private static int someNumber(Model m, int row) {
        int size = row >= 0 && row < m.rows.size() ? m.rows.get(row).readings.size() : 1;
        return below(25) == 0 ? oneOf(-1, 6, 7, size, Integer.MAX_VALUE, Integer.MIN_VALUE)
                : below(Math.max(1, size));
    }

    private static int somePart() {
        return below(25) == 0 ? oneOf(-1, 2, Integer.MAX_VALUE, Integer.MIN_VALUE) : below(2);
    }

    private static int someMass() {
        return below(25) == 0 ? oneOf(-1, 5, 31, 32, Integer.MAX_VALUE, Integer.MIN_VALUE) : below(5);
    }

    private static int someReading() {
        if (below(30) == 0) {
            return oneOf(100000, -100000, 100001, -100001, Integer.MAX_VALUE, Integer.MIN_VALUE);
        }
        switch (readingKind) {
            case 0:
                return below(9) - 4;
            case 1:
                return below(2001) - 1000;
            default:
                return oneOf(-100000, 100000, below(200001) - 100000);
        }
    }

    private static int someLeft() {
        if (below(40) == 0) {
            return oneOf(0, -1, 32, 33, Integer.MAX_VALUE, Integer.MIN_VALUE);
        }
        switch (rowKind) {
            case 0:
                return 1 << below(5);
            case 1:
                return oneOf(1, 2, 3, 12, 16);
            default:
                return 1 + below(31);
        }
    }

    private static int someRight(int left) {
        if (below(40) == 0) {
            return oneOf(0, -1, 32, 33, left, Integer.MAX_VALUE, Integer.MIN_VALUE);
        }
        int right = someLeft();
        return rowKind == 2 && below(8) != 0 ? right & ~left : right;
    }

    private static void change(WeighingDesign x, Model m) {
        int dice = below(100);
        if (dice < 10) {
            int what = below(20) == 0 ? oneOf(-1, 3, Integer.MIN_VALUE) : below(3);
            int value = what == 1 ? below(10) == 0 ? oneOf(-1, 2) : below(2) : someReading();
            due("set(" + what + ", " + value + ")", x.set(what, value), m.set(what, value));
        } else if (dice < 35) {
            int left = someLeft();
            int right = someRight(left);
            due("addRow(" + left + ", " + right + ")", x.addRow(left, right), m.addRow(left, right));
        } else if (dice < 40) {
            int row = someRow(m);
            due("dropRow(" + row + ")", x.dropRow(row), m.dropRow(row));
        } else if (dice < 85) {
            int row = someRow(m);
            int reading = someReading();
            due("take(" + row + ", " + reading + ")", x.take(row, reading), m.take(row, reading));
        } else if (dice < 92) {
            int row = someRow(m);
            int number = someNumber(m, row);
            due("dropReading(" + row + ", " + number + ")",
                    x.dropReading(row, number), m.dropReading(row, number));
        } else {
            due("undo()", x.undo(), m.undo());
        }
    }

    private static void text(WeighingDesign x, Model m) {
        if (below(3) == 0 || m.text.length() > 60) {
            due("clearText()", x.clearText(), m.clearText());
        }
        int rows = 1 + below(4);
        for (int i = 0; i < rows; i++) {
            String row = someTextRow();
            for (int k = 0; k < row.length(); k++) {
                int c = below(400) == 0 ? oneOf(31, 127, 32, 126, 59, 58, -1, 65584) : row.charAt(k);
                due("type(" + c + ")", x.type(c), m.type(c));
            }
        }
        int what = below(25) == 0 ? oneOf(-1, 2) : below(2);
        due("fault(" + what + ") of " + m.text, x.fault(what), m.fault(what));
        due("enter() of " + m.text, x.enter(), m.enter());
    }

    private static String someTextRow() {
        int left = someLeft() & 31;
        int right = someRight(left) & 31;
        String amount = below(12) == 0 ? "" + oneOf(100000, -100000, 100001, -100001, 999999, 1000000)
                : "" + Math.max(-1000000, Math.min(1000000, someReading()));
        if (below(20) == 0) {
            amount = amount + "0";
        }
        return digits(left) + ":" + digits(right) + "=" + amount + (below(30) == 0 ? "" : ";");
    }

    private static String digits(int masses) {
        StringBuilder digits = new StringBuilder();
        for (int mass = 0; mass < 5; mass++) {
            if ((masses >> mass & 1) == 1) {
                digits.append(mass);
                if (below(200) == 0) {
                    digits.append(below(6));
                }
            }
        }
        return digits.toString();
    }

    private static void ask(WeighingDesign x, Model m) {
        int row = someRow(m);
        int number = someNumber(m, row);
        int mass = someMass();
        int part = somePart();
        switch (below(14)) {
            case 0:
                int what = below(30) == 0 ? oneOf(-1, 5) : below(5);
                due("row(" + row + ", " + what + ")", x.row(row, what), m.row(row, what));
                break;
            case 1:
                due("reading(" + row + ", " + number + ")", x.reading(row, number), m.reading(row, number));
                break;
            case 2:
                int left = someLeft();
                int right = someRight(left);
                due("find(" + left + ", " + right + ")", x.find(left, right), m.find(left, right));
                break;
            case 3:
                for (int n = -1; n < 15; n++) {
                    due("count(" + n + ")", x.count(n), m.count(n));
                }
                break;
            case 4:
                due("value(" + mass + ", " + part + ")", x.value(mass, part), m.value(mass, part));
                break;
            case 5:
                due("pan(" + part + ")", x.pan(part), m.pan(part));
                break;
            case 6:
                due("residual(" + row + ", " + number + ", " + part + ")",
                        x.residual(row, number, part), m.residual(row, number, part));
                break;
            case 7:
                due("balance(" + mass + ", " + part + ")", x.balance(mass, part), m.balance(mass, part));
                break;
            case 8:
                due("mean(" + row + ", " + part + ")", x.mean(row, part), m.mean(row, part));
                break;
            case 9:
                due("worst(" + part + ")", x.worst(part), m.worst(part));
                break;
            case 10:
                due("without(" + row + ", " + number + ", " + mass + ", " + part + ")",
                        x.without(row, number, mass, part), m.without(row, number, mass, part));
                break;
            case 11:
                due("chain(" + mass + ")", x.chain(mass), m.chain(mass));
                break;
            case 12:
                due("panBy(" + row + ", " + part + ")", x.panBy(row, part), m.panBy(row, part));
                break;
            default:
                due("mostSuspect()", x.mostSuspect(), m.mostSuspect());
                break;
        }
    }

    // ---- the model

    private record Fraction(BigInteger above, BigInteger below) {
        static final Fraction ZERO = of(0);

        static Fraction of(long number) {
            return new Fraction(BigInteger.valueOf(number), BigInteger.ONE);
        }

        static Fraction lowest(BigInteger above, BigInteger below) {
            BigInteger divisor = above.gcd(below);
            if (below.signum() < 0) {
                divisor = divisor.negate();
            }
            return new Fraction(above.divide(divisor), below.divide(divisor));
        }

        Fraction plus(Fraction other) {
            return lowest(above.multiply(other.below).add(other.above.multiply(below)), below.multiply(other.below));
        }

        Fraction minus(Fraction other) {
            return plus(new Fraction(other.above.negate(), other.below));
        }

        Fraction times(Fraction other) {
            return lowest(above.multiply(other.above), below.multiply(other.below));
        }

        Fraction over(Fraction other) {
            return lowest(above.multiply(other.below), below.multiply(other.above));
        }

        Fraction size() {
            return new Fraction(above.abs(), below);
        }

        boolean isAbove(Fraction other) {
            return above.multiply(other.below).compareTo(other.above.multiply(below)) > 0;
        }

        long part(int part) {
            return (part == 0 ? above : below).longValueExact();
        }
    }

    private static final class Row {
        final int left;
        final int right;
        final List<Integer> readings = new ArrayList<>();

        Row(int left, int right) {
            this.left = left;
            this.right = right;
        }

        Row copy() {
            Row copy = new Row(left, right);
            copy.readings.addAll(readings);
            return copy;
        }

        int sign(int mass) {
            return (left & 1 << mass) != 0 ? 1 : (right & 1 << mass) != 0 ? -1 : 0;
        }

        Fraction mean() {
            long sum = 0;
            for (int reading : readings) {
                sum += reading;
            }
            return Fraction.of(sum).over(Fraction.of(readings.size()));
        }
    }

    private record State(int[] settings, List<Row> rows) {
    }

    private static final class Model {
        private static final Pattern FORM = Pattern.compile("(0?1?2?3?4?):(0?1?2?3?4?)=(-?[0-9]{1,6});");

        int[] settings = {0, 0, 100};
        List<Row> rows = new ArrayList<>();
        List<State> history = new ArrayList<>();
        String text = "";

        private static List<Row> copyOf(List<Row> rows) {
            List<Row> copies = new ArrayList<>();
            for (Row row : rows) {
                copies.add(row.copy());
            }
            return copies;
        }

        private void keep() {
            history.add(new State(settings.clone(), copyOf(rows)));
            if (history.size() > 5) {
                history.remove(0);
            }
        }

        private boolean isRow(int row) {
            return row >= 0 && row < rows.size();
        }

        private boolean isReading(int row, int number) {
            return isRow(row) && number >= 0 && number < rows.get(row).readings.size();
        }

        private static boolean within(int value, int least, int most) {
            return value >= least && value <= most;
        }

        long set(int what, int value) {
            int[] least = {-100000, 0, 0};
            int[] most = {100000, 1, 100000};
            if (!within(what, 0, 2) || !within(value, least[what], most[what])) {
                return INVALID;
            }
            keep();
            int previous = settings[what];
            settings[what] = value;
            return previous;
        }

        long addRow(int left, int right) {
            if (!within(left, 1, 31) || !within(right, 1, 31) || (left & right) != 0) {
                return INVALID;
            }
            if (find(left, right) >= 0) {
                return IMPOSSIBLE;
            }
            if (rows.size() == 12) {
                return FULL;
            }
            keep();
            rows.add(new Row(left, right));
            return rows.size() - 1;
        }

        long dropRow(int row) {
            if (!isRow(row)) {
                return INVALID;
            }
            keep();
            rows.remove(row);
            return rows.size();
        }

        long take(int row, int reading) {
            if (!isRow(row) || !within(reading, -100000, 100000)) {
                return INVALID;
            }
            if (rows.get(row).readings.size() == 6) {
                return FULL;
            }
            keep();
            rows.get(row).readings.add(reading);
            return rows.get(row).readings.size() - 1;
        }

        long dropReading(int row, int number) {
            if (!isReading(row, number)) {
                return INVALID;
            }
            keep();
            rows.get(row).readings.remove(number);
            return rows.get(row).readings.size();
        }

        private int swapped(int row) {
            Row one = rows.get(row);
            for (int i = 0; i < rows.size(); i++) {
                Row other = rows.get(i);
                if (one.left == other.right && one.right == other.left
                        && !one.readings.isEmpty() && !other.readings.isEmpty()) {
                    return i;
                }
            }
            return -1;
        }

        private boolean isNeeded(int row) {
            List<Row> fewer = new ArrayList<>(rows);
            fewer.remove(row);
            return solve(rows) != null && solve(fewer) == null;
        }

        long row(int row, int what) {
            if (!isRow(row) || !within(what, 0, 4)) {
                return INVALID;
            }
            Row one = rows.get(row);
            int other = swapped(row);
            long[] answers = {one.left, one.right, one.readings.size(), other < 0 ? NOTHING : other,
                isNeeded(row) ? 1 : 0};
            return answers[what];
        }

        long reading(int row, int number) {
            return isReading(row, number) ? rows.get(row).readings.get(number) : INVALID;
        }

        long find(int left, int right) {
            if (!within(left, 1, 31) || !within(right, 1, 31)) {
                return INVALID;
            }
            for (int i = 0; i < rows.size(); i++) {
                if (rows.get(i).left == left && rows.get(i).right == right) {
                    return i;
                }
            }
            return NOTHING;
        }

        long count(int what) {
            if (!within(what, 0, 13)) {
                return INVALID;
            }
            int readings = 0;
            int suspect = 0;
            int halves = 0;
            int needed = 0;
            int chained = 0;
            for (int i = 0; i < rows.size(); i++) {
                readings += rows.get(i).readings.size();
                if (swapped(i) >= 0) {
                    halves++;
                    if (sumOfMeans(i).size().isAbove(Fraction.of(settings[2]))) {
                        suspect = 1;
                    }
                }
                if (what == 13 && isNeeded(i)) {
                    needed++;
                }
            }
            for (int mass = 0; mass < 5; mass++) {
                if (chain(mass) >= 0) {
                    chained++;
                }
            }
            int unknowns = 4 + settings[1];
            int[] answers = {settings[0], settings[1], settings[2], rows.size(), readings,
                solve(rows) != null ? 1 : 0, unknowns, readings - unknowns, suspect, halves / 2, chained,
                history.size(), text.length(), needed};
            return answers[what];
        }

        long undo() {
            if (history.isEmpty()) {
                return IMPOSSIBLE;
            }
            State state = history.remove(history.size() - 1);
            settings = state.settings();
            rows = state.rows();
            return history.size();
        }

        /** Masses 1 to 4 at their numbers, the pan difference at 0; null if it is not whole. */
        private Fraction[] solve(List<Row> among) {
            int size = 4 + settings[1];
            Fraction[][] table = new Fraction[size][size + 1];
            for (Fraction[] line : table) {
                java.util.Arrays.fill(line, Fraction.ZERO);
            }
            for (Row row : among) {
                int[] factors = {row.sign(1), row.sign(2), row.sign(3), row.sign(4), 1};
                for (int reading : row.readings) {
                    long known = reading - (long) row.sign(0) * settings[0];
                    for (int i = 0; i < size; i++) {
                        for (int j = 0; j < size; j++) {
                            table[i][j] = table[i][j].plus(Fraction.of(factors[i] * factors[j]));
                        }
                        table[i][size] = table[i][size].plus(Fraction.of(factors[i] * known));
                    }
                }
            }
            if (!eliminate(table)) {
                return null;
            }
            Fraction[] values = new Fraction[5];
            for (int mass = 1; mass < 5; mass++) {
                values[mass] = table[mass - 1][size];
            }
            values[0] = size == 5 ? table[4][5] : Fraction.ZERO;
            return values;
        }

        /** Gauss and Jordan, until the last column is the solution; false if there is not just one. */
        private static boolean eliminate(Fraction[][] table) {
            int size = table.length;
            for (int column = 0; column < size; column++) {
                int pivot = column;
                while (pivot < size && table[pivot][column].above().signum() == 0) {
                    pivot++;
                }
                if (pivot == size) {
                    return false;
                }
                Fraction[] line = table[pivot];
                table[pivot] = table[column];
                table[column] = line;
                Fraction divisor = line[column];
                for (int j = 0; j <= size; j++) {
                    line[j] = line[j].over(divisor);
                }
                for (int i = 0; i < size; i++) {
                    if (i != column) {
                        Fraction factor = table[i][column];
                        for (int j = 0; j <= size; j++) {
                            table[i][j] = table[i][j].minus(factor.times(line[j]));
                        }
                    }
                }
            }
            return true;
        }

        private Fraction residual(Fraction[] values, Row row, int reading) {
            Fraction residual = Fraction.of(reading).minus(Fraction.of((long) row.sign(0) * settings[0]));
            for (int mass = 1; mass < 5; mass++) {
                residual = residual.minus(values[mass].times(Fraction.of(row.sign(mass))));
            }
            return residual.minus(values[0]);
        }

        long value(int mass, int part) {
            if (!within(mass, 0, 4) || !within(part, 0, 1)) {
                return INVALID;
            }
            Fraction[] values = solve(rows);
            if (values == null) {
                return IMPOSSIBLE;
            }
            return (mass == 0 ? Fraction.of(settings[0]) : values[mass]).part(part);
        }

        long pan(int part) {
            if (!within(part, 0, 1)) {
                return INVALID;
            }
            Fraction[] values = solve(rows);
            return values == null ? IMPOSSIBLE : values[0].part(part);
        }

        long residual(int row, int number, int part) {
            if (!isReading(row, number) || !within(part, 0, 1)) {
                return INVALID;
            }
            Fraction[] values = solve(rows);
            if (values == null) {
                return IMPOSSIBLE;
            }
            Row one = rows.get(row);
            return residual(values, one, one.readings.get(number)).part(part);
        }

        long balance(int mass, int part) {
            if (!within(mass, 0, 4) || !within(part, 0, 1)) {
                return INVALID;
            }
            Fraction[] values = solve(rows);
            if (values == null) {
                return IMPOSSIBLE;
            }
            Fraction sum = Fraction.ZERO;
            for (Row row : rows) {
                for (int reading : row.readings) {
                    sum = sum.plus(residual(values, row, reading).times(Fraction.of(row.sign(mass))));
                }
            }
            return sum.part(part);
        }

        long mean(int row, int part) {
            if (!isRow(row) || !within(part, 0, 1)) {
                return INVALID;
            }
            return rows.get(row).readings.isEmpty() ? NOTHING : rows.get(row).mean().part(part);
        }

        long worst(int what) {
            if (!within(what, 0, 1)) {
                return INVALID;
            }
            Fraction[] values = solve(rows);
            if (values == null) {
                return IMPOSSIBLE;
            }
            int[] place = {-1, -1};
            Fraction worst = Fraction.of(-1);
            for (int i = 0; i < rows.size(); i++) {
                Row row = rows.get(i);
                for (int n = 0; n < row.readings.size(); n++) {
                    Fraction size = residual(values, row, row.readings.get(n)).size();
                    if (size.isAbove(worst)) {
                        worst = size;
                        place = new int[] {i, n};
                    }
                }
            }
            return place[what];
        }

        long without(int row, int number, int mass, int part) {
            if (!isReading(row, number) || !within(mass, 1, 4) || !within(part, 0, 1)) {
                return INVALID;
            }
            List<Row> fewer = copyOf(rows);
            fewer.get(row).readings.remove(number);
            Fraction[] values = solve(fewer);
            return values == null ? IMPOSSIBLE : values[mass].part(part);
        }

        /** Distances between all masses, made shorter by each mass in turn. */
        long chain(int mass) {
            if (!within(mass, 0, 4)) {
                return INVALID;
            }
            int[][] links = new int[5][5];
            for (int a = 0; a < 5; a++) {
                for (int b = 0; b < 5; b++) {
                    links[a][b] = a == b ? 0 : 99;
                    for (Row row : rows) {
                        if (a != b && !row.readings.isEmpty() && row.sign(a) != 0 && row.sign(b) != 0) {
                            links[a][b] = 1;
                        }
                    }
                }
            }
            for (int by = 0; by < 5; by++) {
                for (int a = 0; a < 5; a++) {
                    for (int b = 0; b < 5; b++) {
                        links[a][b] = Math.min(links[a][b], links[a][by] + links[by][b]);
                    }
                }
            }
            return links[mass][0] < 99 ? links[mass][0] : NOTHING;
        }

        private Fraction sumOfMeans(int row) {
            return rows.get(row).mean().plus(rows.get(swapped(row)).mean());
        }

        long panBy(int row, int part) {
            if (!isRow(row) || !within(part, 0, 1)) {
                return INVALID;
            }
            return swapped(row) < 0 ? NOTHING : sumOfMeans(row).over(Fraction.of(2)).part(part);
        }

        long mostSuspect() {
            long most = NOTHING;
            Fraction greatest = Fraction.of(-1);
            for (int i = 0; i < rows.size(); i++) {
                if (swapped(i) >= 0 && sumOfMeans(i).size().isAbove(greatest)) {
                    greatest = sumOfMeans(i).size();
                    most = i;
                }
            }
            return most;
        }

        long type(int character) {
            if (!within(character, 32, 126)) {
                return INVALID;
            }
            if (text.length() == 80) {
                return FULL;
            }
            text += (char) character;
            return text.length();
        }

        long clearText() {
            int length = text.length();
            text = "";
            return length;
        }

        private static int masses(String digits) {
            int masses = 0;
            for (char digit : digits.toCharArray()) {
                masses |= 1 << digit - '0';
            }
            return masses;
        }

        /** Position and reason of the fault; the rows of the text come into the list. */
        private int[] enterInto(List<Row> list) {
            Matcher form = FORM.matcher(text);
            int position = 0;
            while (position < text.length()) {
                form.region(position, text.length());
                if (!form.lookingAt() || form.group(1).isEmpty() || form.group(2).isEmpty()) {
                    return new int[] {position, 1};
                }
                int left = masses(form.group(1));
                int right = masses(form.group(2));
                int reading = Integer.parseInt(form.group(3));
                if ((left & right) != 0) {
                    return new int[] {position, 2};
                }
                if (!within(reading, -100000, 100000)) {
                    return new int[] {position, 3};
                }
                Row found = null;
                for (Row row : list) {
                    if (row.left == left && row.right == right) {
                        found = row;
                    }
                }
                if (found == null && list.size() < 12) {
                    found = new Row(left, right);
                    list.add(found);
                }
                if (found == null || found.readings.size() == 6) {
                    return new int[] {position, 4};
                }
                found.readings.add(reading);
                position = form.end();
            }
            return null;
        }

        long fault(int what) {
            if (!within(what, 0, 1)) {
                return INVALID;
            }
            int[] fault = enterInto(copyOf(rows));
            return fault == null ? NOTHING : fault[what];
        }

        long enter() {
            if (enterInto(copyOf(rows)) != null) {
                return IMPOSSIBLE;
            }
            keep();
            enterInto(rows);
            return text.replaceAll("[^;]", "").length();
        }
    }
}
