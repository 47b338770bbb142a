import java.math.BigInteger;

// Each sentence of the document's "Terms" that names a boundary: a method each, in the document's
// order, with its words ahead of it. The answers that are due are worked out by hand.
public final class TermsTests extends Checks {
    public static void main(String[] args) {
        lowestTerms();
        standardInitially();
        setsOfARow();
        twelveRowsAtMost();
        noTwoRowsAlike();
        signs();
        sixReadingsAtMost();
        readingsInTheirOrder();
        panSetting();
        leastSquares();
        wholeByReadings();
        wholeByRows();
        wholeWithThePan();
        sumsOfResiduals();
        links();
        fewestLinks();
        swappedRows();
        greaterThanTheLimit();
        limitsOfTheLimit();
        eightyCharacters();
        formOfAMassList();
        formOfAReading();
        endOfARow();
        endOfTheText();
        massOnBothPans();
        readingOutOfRange();
        roomForRows();
        roomBesideRows();
        roomForReadings();
        firstReason();
        firstRow();
        enteredRows();
        asManyAsATextHolds();
        changes();
        changesToTheSame();
        noChanges();
        sixthState();
        statesAreWhole();
        statesOfEachKind();
        textIsNotRecorded();
        finish();
    }

    // "in lowest terms, the denominator being above 0 (0 is 0 / 1)"
    private static void lowestTerms() {
        about = "lowest terms";
        WeighingDesign x = new WeighingDesign();
        weigh(x, 1, 2, 0);
        weigh(x, 1, 4, 1, -1);
        weigh(x, 1, 8, 2, 4);
        weigh(x, 1, 16, -1, -2);
        weigh(x, 2, 1, 0, 0, 0, 0, 0, 4);
        weigh(x, 2, 4, -100000, -100000, -100000, -100000, -100000, -100000);
        weigh(x, 4, 2, 100000, 100000, 100000, 100000, 100000, 99999);
        weigh(x, 4, 1, 0, 0);
        weigh(x, 8, 16, 1, 0, 0, 0, 0, 0);
        weigh(x, 16, 8, 1, 0, 0, 0, 0);
        dueMean(x, 0, 0, 1);
        dueMean(x, 1, 0, 1);
        dueMean(x, 2, 3, 1);
        dueMean(x, 3, -3, 2);
        dueMean(x, 4, 2, 3);
        dueMean(x, 5, -100000, 1);
        dueMean(x, 6, 599999, 6);
        duePanBy(x, 0, 1, 3);
        duePanBy(x, 1, 0, 1);
        duePanBy(x, 6, -1, 12);
        duePanBy(x, 9, 11, 60);
        dueValue(star(0), 1, 0, 1);
        dueValue(star(1, -1), 1, 0, 1);
        dueValue(star(2, 4), 1, -3, 1);
        dueValue(star(1, 2), 1, -3, 2);
        dueValue(star(0, 0, 0, 0, 0, 4), 1, -2, 3);
        dueValue(star(0), 0, 0, 1);
        dueResidual(star(3), 0, 0, 0, 1);
        dueResidual(star(2, 4), 0, 0, -1, 1);
        dueResidual(star(1, 2), 0, 1, 1, 2);
        dueResidual(star(0, 0, 0, 0, 0, 4), 0, 5, 10, 3);
        dueBalance(loop(0), 0, 0, 1);
        dueBalance(loop(6), 0, 2, 1);
        dueBalance(loop(-4), 0, -4, 3);
        dueWithout(star(1, 2, 4), 0, 0, 1, -3, 1);
        dueWithout(star(1, 2, 4), 0, 1, 1, -5, 2);
        dueWithout(star(5, -5, 9), 0, 2, 1, 0, 1);
        duePan(panOf(1, -1), 0, 1);
        duePan(panOf(-1, 0), -1, 2);
        duePan(panOf(2, 4), 3, 1);
    }

    /** The standard against mass 1, and the two of them swapped, with the pan 1. */
    private static WeighingDesign panOf(int reading, int swapped) {
        WeighingDesign x = star(reading);
        weigh(x, 2, 1, swapped);
        x.set(1, 1);
        return x;
    }

    // "that of the standard is known (from -100000 to 100000, initially 0)"
    private static void standardInitially() {
        about = "the standard";
        WeighingDesign x = star();
        due("count(0)", x.count(0), 0);
        dueValue(x, 0, 0, 1);
        due("set(0, -100000)", x.set(0, -100000), 0);
        dueValue(x, 0, -100000, 1);
        dueValue(x, 1, -100010, 1);
        due("set(0, 100000)", x.set(0, 100000), -100000);
        dueValue(x, 0, 100000, 1);
        dueValue(x, 4, 99960, 1);
        due("set(0, 100001)", x.set(0, 100001), INVALID);
        due("set(0, -100001)", x.set(0, -100001), INVALID);
        dueValue(x, 0, 100000, 1);
    }

    // "both not empty and without a mass in common"
    private static void setsOfARow() {
        about = "sets of a row";
        for (int left = -1; left <= 33; left++) {
            for (int right = -1; right <= 33; right++) {
                boolean sets = left >= 1 && left <= 31 && right >= 1 && right <= 31;
                WeighingDesign x = new WeighingDesign();
                String sided = "(" + left + ", " + right + ")";
                due("find" + sided, x.find(left, right), sets ? NOTHING : INVALID);
                due("addRow" + sided, x.addRow(left, right), sets && (left & right) == 0 ? 0 : INVALID);
                boolean made = x.count(3) == 1;
                due("row(0, 0) of " + sided, x.row(0, 0), made ? left : INVALID);
                due("row(0, 1) of " + sided, x.row(0, 1), made ? right : INVALID);
                due("find" + sided + " then", x.find(left, right), made ? 0 : sets ? NOTHING : INVALID);
            }
        }
    }

    // "There are at most 12 rows, numbered from 0"
    private static void twelveRowsAtMost() {
        about = "12 rows";
        WeighingDesign x = new WeighingDesign();
        for (int row = 0; row < 12; row++) {
            due("count(3)", x.count(3), row);
            due("addRow", x.addRow(TWELVE[row][0], TWELVE[row][1]), row);
        }
        due("addRow(8, 1) as the 13th", x.addRow(8, 1), FULL);
        due("count(3)", x.count(3), 12);
        due("find(8, 1)", x.find(8, 1), NOTHING);
        due("dropRow(0)", x.dropRow(0), 11);
        due("addRow(8, 1) as the 12th", x.addRow(8, 1), 11);
        due("addRow(1, 2) as the 13th", x.addRow(1, 2), FULL);
        due("undo()", x.undo(), 4);
        due("addRow(1, 2) as the 12th", x.addRow(1, 2), 11);
        due("row(0, 1)", x.row(0, 1), 4);
        due("row(10, 1)", x.row(10, 1), 16);
        due("row(11, 1)", x.row(11, 1), 2);
        due("row(12, 1)", x.row(12, 1), INVALID);
        for (int rows = 11; rows >= 0; rows--) {
            due("dropRow", x.dropRow(rows), rows);
        }
        due("dropRow(0) of none", x.dropRow(0), INVALID);
        due("addRow(8, 1) as the first", x.addRow(8, 1), 0);
    }

    // "no two of them with the same sets left and right"
    private static void noTwoRowsAlike() {
        about = "no two rows alike";
        WeighingDesign x = new WeighingDesign();
        due("addRow(3, 4)", x.addRow(3, 4), 0);
        due("addRow(3, 4) again", x.addRow(3, 4), IMPOSSIBLE);
        due("addRow(4, 3)", x.addRow(4, 3), 1);
        due("addRow(3, 8), the same left", x.addRow(3, 8), 2);
        due("addRow(8, 4), the same right", x.addRow(8, 4), 3);
        due("addRow(8, 4) again", x.addRow(8, 4), IMPOSSIBLE);
        x.dropRow(0);
        due("addRow(3, 4) after dropRow", x.addRow(3, 4), 3);
        WeighingDesign y = twelveRows();
        for (int[] row : TWELVE) {
            due("addRow of 12", y.addRow(row[0], row[1]), IMPOSSIBLE);
        }
        typeAll(y, "0:1=5;3:0=5;");
        due("fault(0), a row that there is and a 13th", y.fault(0), 6);
    }

    // "The sign of a mass in a row is 1 if it is on the left pan, -1 if on the right one, otherwise 0."
    private static void signs() {
        about = "signs";
        int[] deviations = {50000, 1000, 200, 30, 4};
        int[][] rows = {{1, 30}, {2, 1}, {12, 16}, {17, 6}, {8, 4}, {5, 10}, {16, 2}};
        for (int pan = 0; pan < 2; pan++) {
            WeighingDesign x = new WeighingDesign();
            x.set(0, deviations[0]);
            x.set(1, pan);
            for (int[] row : rows) {
                weigh(x, row[0], row[1], sum(deviations, row[0]) - sum(deviations, row[1]) + 7 * pan);
            }
            for (int mass = 0; mass < 5; mass++) {
                dueValue(x, mass, deviations[mass], 1);
                dueBalance(x, mass, 0, 1);
            }
            duePan(x, 7 * pan, 1);
            for (int row = 0; row < rows.length; row++) {
                dueResidual(x, row, 0, 0, 1);
            }
        }
    }

    private static int sum(int[] deviations, int masses) {
        int sum = 0;
        for (int mass = 0; mass < 5; mass++) {
            sum += (masses & 1 << mass) != 0 ? deviations[mass] : 0;
        }
        return sum;
    }

    // "A row has at most 6 readings (-100000 to 100000 each)"
    private static void sixReadingsAtMost() {
        about = "6 readings";
        WeighingDesign x = twelveRows();
        due("reading(0, 0) of none", x.reading(0, 0), INVALID);
        due("row(0, 2) of none", x.row(0, 2), 0);
        for (int row = 0; row < 12; row += 11) {
            for (int n = 0; n < 6; n++) {
                due("take(" + row + ", ..)", x.take(row, n % 2 == 0 ? -100000 : 100000), n);
            }
            due("take(" + row + ", 0) as the 7th", x.take(row, 0), FULL);
            due("row(" + row + ", 2)", x.row(row, 2), 6);
            due("reading(" + row + ", 5)", x.reading(row, 5), 100000);
            due("reading(" + row + ", 6)", x.reading(row, 6), INVALID);
        }
        due("take(1, 0) beside a full row", x.take(1, 0), 0);
        due("take(10, 0) beside a full row", x.take(10, 0), 0);
        due("take(1, -100001)", x.take(1, -100001), INVALID);
        due("take(1, 100001)", x.take(1, 100001), INVALID);
        due("count(4)", x.count(4), 14);
        due("dropReading(11, 2)", x.dropReading(11, 2), 5);
        due("take(11, 3) as the 6th", x.take(11, 3), 5);
        due("take(11, 3) as the 7th", x.take(11, 3), FULL);
        WeighingDesign y = fullDesign();
        due("count(4) of all", y.count(4), 72);
        due("count(7) of all", y.count(7), 68);
        y.set(1, 1);
        due("count(7) of all with the pan", y.count(7), 67);
        due("reading(11, 5)", y.reading(11, 5), 115);
    }

    // "numbered from 0 in the order in which they were taken"
    private static void readingsInTheirOrder() {
        about = "order of readings";
        WeighingDesign x = new WeighingDesign();
        weigh(x, 1, 2, 30, 10, 20, 10, 50, 40);
        weigh(x, 1, 4, 60, 70, 80, 90, 91, 92);
        due("dropReading(0, 0), the first", x.dropReading(0, 0), 5);
        due("dropReading(0, 4), the last", x.dropReading(0, 4), 4);
        due("dropReading(0, 1), in the middle", x.dropReading(0, 1), 3);
        due("take(0, 5)", x.take(0, 5), 3);
        int[] left = {10, 10, 50, 5};
        for (int n = 0; n < left.length; n++) {
            due("reading(0, " + n + ")", x.reading(0, n), left[n]);
        }
        due("reading(0, 4)", x.reading(0, 4), INVALID);
        due("reading(1, 0)", x.reading(1, 0), 60);
        due("reading(1, 5)", x.reading(1, 5), 92);
        due("dropRow(0)", x.dropRow(0), 1);
        due("reading(0, 0) of the row that was 1", x.reading(0, 0), 60);
        due("reading(0, 5) of the row that was 1", x.reading(0, 5), 92);
    }

    // "The pan is a setting, 0 (initially) or 1: with 1 there is one more unknown number"
    private static void panSetting() {
        about = "the pan";
        WeighingDesign x = star(10);
        weigh(x, 2, 1, -4);
        due("count(1)", x.count(1), 0);
        due("count(6)", x.count(6), 4);
        due("count(7)", x.count(7), 1);
        duePan(x, 0, 1);
        dueResidual(x, 0, 0, 3, 1);
        dueResidual(x, 4, 0, 3, 1);
        due("set(1, 1)", x.set(1, 1), 0);
        due("count(6)", x.count(6), 5);
        due("count(7)", x.count(7), 0);
        duePan(x, 3, 1);
        dueResidual(x, 0, 0, 0, 1);
        dueResidual(x, 4, 0, 0, 1);
        due("set(1, 0)", x.set(1, 0), 1);
        duePan(x, 0, 1);
    }

    // "the reading minus the sum, over all masses, of sign * deviation, and minus the pan difference
    // with the pan 1", and "for which the sum of the squares of the residuals of all readings is least"
    private static void leastSquares() {
        about = "least squares";
        for (int pan = 0; pan < 2; pan++) {
            dueLeast(scattered(pan));
            WeighingDesign x = loop(7);
            weigh(x, 28, 3, -40, 41);
            x.set(0, 333);
            x.set(1, pan);
            dueLeast(x);
        }
    }

    /** Twelve rows of three readings that are far from each other. */
    private static WeighingDesign scattered(int pan) {
        WeighingDesign x = new WeighingDesign();
        x.set(1, pan);
        x.set(0, -12345);
        for (int row = 0; row < 12; row++) {
            weigh(x, TWELVE[row][0], TWELVE[row][1], 17 * row - 90, row * row, -100000 + row);
        }
        return x;
    }

    /**
     * All is counted in parts of a unit: as many as make all values whole. The unknown numbers are
     * moved by a part or by a unit, each of them up, down or not: no sum of squares is as small then.
     */
    private static void dueLeast(WeighingDesign x) {
        BigInteger parts = BigInteger.valueOf(x.pan(1));
        for (int mass = 1; mass < 5; mass++) {
            parts = parts.multiply(BigInteger.valueOf(x.value(mass, 1)));
        }
        BigInteger[] unknown = new BigInteger[5];
        for (int mass = 1; mass < 5; mass++) {
            unknown[mass - 1] = inParts(x.value(mass, 0), x.value(mass, 1), parts);
        }
        unknown[4] = inParts(x.pan(0), x.pan(1), parts);
        int[][] readings = factorsAndReadings(x);
        BigInteger least = sumOfSquares(readings, unknown, parts);
        dueSquares(x, least, parts);
        int moves = x.count(1) == 1 ? 243 : 81;
        for (int move = 1; move < moves; move++) {
            for (BigInteger step : new BigInteger[] {BigInteger.ONE, parts}) {
                BigInteger more = sumOfSquares(readings, moved(unknown, move, step), parts);
                due("the sum of squares moved by " + move + " is greater", more.compareTo(least) > 0 ? 1 : 0, 1);
            }
        }
    }

    private static BigInteger inParts(long above, long below, BigInteger parts) {
        return BigInteger.valueOf(above).multiply(parts).divide(BigInteger.valueOf(below));
    }

    /** For each reading: the signs of the masses 1 to 4, 1 with the pan 1, and the reading without the standard. */
    private static int[][] factorsAndReadings(WeighingDesign x) {
        int[][] all = new int[x.count(4)][6];
        int at = 0;
        for (int row = 0; row < x.count(3); row++) {
            int left = x.row(row, 0);
            int right = x.row(row, 1);
            for (int n = 0; n < x.row(row, 2); n++) {
                for (int mass = 1; mass < 5; mass++) {
                    all[at][mass - 1] = (left >> mass & 1) - (right >> mass & 1);
                }
                all[at][4] = x.count(1);
                all[at][5] = x.reading(row, n) - ((left & 1) - (right & 1)) * x.count(0);
                at++;
            }
        }
        return all;
    }

    private static BigInteger sumOfSquares(int[][] readings, BigInteger[] unknown, BigInteger parts) {
        BigInteger sum = BigInteger.ZERO;
        for (int[] reading : readings) {
            BigInteger residual = BigInteger.valueOf(reading[5]).multiply(parts);
            for (int i = 0; i < 5; i++) {
                residual = residual.subtract(unknown[i].multiply(BigInteger.valueOf(reading[i])));
            }
            sum = sum.add(residual.multiply(residual));
        }
        return sum;
    }

    /** The digits of the move to the base 3 tell it: 0 stays, 1 goes up, 2 goes down. */
    private static BigInteger[] moved(BigInteger[] unknown, int move, BigInteger step) {
        BigInteger[] moved = unknown.clone();
        for (int i = 0, rest = move; i < 5; i++, rest /= 3) {
            moved[i] = rest % 3 == 1 ? moved[i].add(step) : rest % 3 == 2 ? moved[i].subtract(step) : moved[i];
        }
        return moved;
    }

    /** The residuals that are told are those that were squared. */
    private static void dueSquares(WeighingDesign x, BigInteger least, BigInteger parts) {
        BigInteger sum = BigInteger.ZERO;
        for (int row = 0; row < x.count(3); row++) {
            for (int n = 0; n < x.row(row, 2); n++) {
                BigInteger residual = inParts(x.residual(row, n, 0), x.residual(row, n, 1), parts);
                sum = sum.add(residual.multiply(residual));
            }
        }
        due("the residuals' sum of squares is the least", sum.equals(least) ? 1 : 0, 1);
    }

    // "The design is whole if there is just one such set of numbers; otherwise there are no values."
    private static void wholeByReadings() {
        about = "whole by readings";
        WeighingDesign x = new WeighingDesign();
        dueWhole(x, false);
        for (int mass = 1; mass < 5; mass++) {
            x.addRow(1, 1 << mass);
        }
        dueWhole(x, false);
        for (int row = 0; row < 4; row++) {
            dueWhole(x, false);
            x.take(row, 0);
        }
        dueWhole(x, true);
        x.dropReading(3, 0);
        dueWhole(x, false);
        for (int n = 0; n < 6; n++) {
            x.take(0, n);
        }
        due("count(4)", x.count(4), 8);
        dueWhole(x, false);
        x.take(3, 100000);
        dueWhole(x, true);
        x.dropRow(2);
        dueWhole(x, false);
    }

    private static void dueWhole(WeighingDesign x, boolean whole) {
        due("count(5)", x.count(5), whole ? 1 : 0);
        for (int mass = 0; mass < 5; mass++) {
            due("value(" + mass + ", 1) is there", x.value(mass, 1) == IMPOSSIBLE ? 0 : 1, whole ? 1 : 0);
        }
        due("pan(1) is there", x.pan(1) == IMPOSSIBLE ? 0 : 1, whole ? 1 : 0);
        due("worst(0) is there", x.worst(0) == IMPOSSIBLE ? 0 : 1, whole ? 1 : 0);
        due("balance(1, 0)", x.balance(1, 0), whole ? 0 : IMPOSSIBLE);
    }

    private static WeighingDesign ofRows(int... sets) {
        WeighingDesign x = new WeighingDesign();
        for (int i = 0; i + 1 < sets.length; i += 2) {
            weigh(x, sets[i], sets[i + 1], 1);
        }
        return x;
    }

    /** The same readings make a design whole or not by the rows in which they are. */
    private static void wholeByRows() {
        about = "whole by rows";
        dueWhole(ofRows(1, 2, 1, 4, 1, 8, 1, 16), true);
        dueWhole(ofRows(1, 2, 2, 1, 1, 4, 1, 8), false);
        dueWhole(ofRows(2, 4, 4, 8, 8, 16, 2, 16), false);
        dueWhole(ofRows(2, 4, 2, 8, 2, 16, 1, 30), true);
        dueWhole(ofRows(1, 30, 30, 1), false);
        dueWhole(ofRows(1, 2, 3, 4, 7, 8, 15, 16), true);
        dueWhole(ofRows(1, 2, 3, 4, 7, 8, 4, 3, 8, 7), false);
        WeighingDesign x = ofRows(2, 4, 2, 8, 2, 16, 2, 12);
        dueWhole(x, true);
        due("count(10), whole without the standard", x.count(10), 1);
        dueValue(x, 1, 1, 1);
        dueValue(x, 2, 0, 1);
        WeighingDesign y = ofRows(1, 30, 3, 28, 5, 26);
        dueWhole(y, false);
        due("count(10), not whole with all chains", y.count(10), 5);
    }

    private static void wholeWithThePan() {
        about = "whole with the pan";
        dueWholeWithPan(ofRows(1, 2, 1, 4, 1, 8, 1, 16), false);
        dueWholeWithPan(ofRows(1, 2, 1, 4, 1, 8, 1, 16, 2, 1), true);
        dueWholeWithPan(ofRows(1, 2, 1, 4, 1, 8, 1, 16, 2, 4), true);
        dueWholeWithPan(ofRows(1, 2, 1, 4, 1, 8, 1, 16, 2, 12), false);
        dueWholeWithPan(ofRows(1, 2, 1, 4, 1, 8, 1, 16, 1, 6), true);
        WeighingDesign x = star(10, 10, 10);
        dueWholeWithPan(x, false);
        x.set(1, 0);
        dueWhole(x, true);
        WeighingDesign y = panOf(10, -4);
        dueWhole(y, true);
        y.dropReading(4, 0);
        dueWhole(y, false);
        y.set(1, 0);
        dueWhole(y, true);
    }

    private static void dueWholeWithPan(WeighingDesign x, boolean whole) {
        dueWhole(x, true);
        x.set(1, 1);
        dueWhole(x, whole);
    }

    // "for each unknown mass the sum of sign * residual over all readings is 0, and with the pan 1
    // the sum of all residuals is 0"
    private static void sumsOfResiduals() {
        about = "sums of residuals";
        for (int pan = 0; pan < 2; pan++) {
            WeighingDesign x = scattered(pan);
            for (int mass = 1; mass < 5; mass++) {
                dueBalance(x, mass, 0, 1);
            }
            BigInteger above = BigInteger.ZERO;
            BigInteger below = BigInteger.ONE;
            for (int row = 0; row < 12; row++) {
                for (int n = 0; n < 3; n++) {
                    BigInteger numerator = BigInteger.valueOf(x.residual(row, n, 0));
                    BigInteger denominator = BigInteger.valueOf(x.residual(row, n, 1));
                    above = above.multiply(denominator).add(numerator.multiply(below));
                    below = below.multiply(denominator);
                }
            }
            due("the sum of residuals is 0 with the pan " + pan, above.signum() == 0 ? 1 : 0, pan);
        }
    }

    // "if there is a row with at least one reading in which both have a sign other than 0 (on the
    // same pan or on both)"
    private static void links() {
        about = "links";
        WeighingDesign x = new WeighingDesign();
        dueChains(x, 0, NOTHING, NOTHING, NOTHING, NOTHING);
        x.addRow(9, 4);
        dueChains(x, 0, NOTHING, NOTHING, NOTHING, NOTHING);
        x.take(0, 0);
        dueChains(x, 0, NOTHING, 1, 1, NOTHING);
        x.take(0, 0);
        x.dropReading(0, 0);
        dueChains(x, 0, NOTHING, 1, 1, NOTHING);
        x.dropReading(0, 0);
        dueChains(x, 0, NOTHING, NOTHING, NOTHING, NOTHING);
        dueChains(ofRows(1, 30), 0, 1, 1, 1, 1);
        dueChains(ofRows(15, 16), 0, 1, 1, 1, 1);
        dueChains(ofRows(16, 15), 0, 1, 1, 1, 1);
        dueChains(ofRows(2, 28, 4, 24), 0, NOTHING, NOTHING, NOTHING, NOTHING);
        dueChains(ofRows(1, 2, 4, 24), 0, 1, NOTHING, NOTHING, NOTHING);
    }

    private static void dueChains(WeighingDesign x, long... chains) {
        int found = 0;
        for (int mass = 0; mass < 5; mass++) {
            due("chain(" + mass + ")", x.chain(mass), chains[mass]);
            found += chains[mass] == NOTHING ? 0 : 1;
        }
        due("count(10)", x.count(10), found);
    }

    // "the fewest links by which one comes from it to the standard, 0 for the standard"
    private static void fewestLinks() {
        about = "fewest links";
        dueChains(ofRows(1, 2, 2, 4, 4, 8, 8, 16), 0, 1, 2, 3, 4);
        dueChains(ofRows(16, 8, 8, 4, 4, 2, 2, 1), 0, 1, 2, 3, 4);
        dueChains(ofRows(4, 2, 2, 8, 8, 16, 16, 1), 0, 3, 4, 2, 1);
        dueChains(ofRows(1, 2, 2, 4, 4, 8, 8, 16, 16, 1), 0, 1, 2, 2, 1);
        dueChains(ofRows(1, 2, 2, 4, 4, 8, 8, 16, 2, 16), 0, 1, 2, 3, 2);
        dueChains(ofRows(1, 2, 6, 24), 0, 1, 2, 2, 2);
    }

    // "Two rows are swapped if the left pan of each is the right pan of the other, and both have
    // readings."
    private static void swappedRows() {
        about = "swapped rows";
        WeighingDesign x = new WeighingDesign();
        due("count(9) of no rows", x.count(9), 0);
        weigh(x, 3, 4, 1);
        weigh(x, 4, 1, 1);
        weigh(x, 4, 2, 1);
        weigh(x, 12, 3, 1);
        due("count(9) of rows that share one pan", x.count(9), 0);
        due("mostSuspect()", x.mostSuspect(), NOTHING);
        x.addRow(4, 3);
        due("count(9) without its reading", x.count(9), 0);
        due("row(0, 3)", x.row(0, 3), NOTHING);
        due("row(4, 3)", x.row(4, 3), NOTHING);
        due("panBy(0, 0)", x.panBy(0, 0), NOTHING);
        due("panBy(4, 0)", x.panBy(4, 0), NOTHING);
        x.take(4, 2);
        due("count(9)", x.count(9), 1);
        due("row(0, 3)", x.row(0, 3), 4);
        due("row(4, 3)", x.row(4, 3), 0);
        duePanBy(x, 4, 3, 2);
        x.dropReading(0, 0);
        due("count(9) without the other one's reading", x.count(9), 0);
        due("row(4, 3)", x.row(4, 3), NOTHING);
        WeighingDesign y = ofRows(1, 2, 2, 1, 1, 4, 4, 1, 1, 8, 8, 1, 1, 16, 16, 1, 2, 4, 4, 2, 15, 16, 16, 15);
        due("count(3)", y.count(3), 12);
        due("count(9) of all rows", y.count(9), 6);
        due("row(11, 3)", y.row(11, 3), 10);
        due("mostSuspect() of equal ones", y.mostSuspect(), 0);
        y.take(11, 3);
        due("mostSuspect() of the last pair", y.mostSuspect(), 10);
        due("row(11, 3) of all rows", y.row(10, 3), 11);
    }

    // "whose sum of means is, in its absolute value, greater than the limit"
    private static void greaterThanTheLimit() {
        about = "greater than the limit";
        dueSuspect(100, new int[] {50}, new int[] {50}, 0);
        dueSuspect(100, new int[] {-50}, new int[] {-50}, 0);
        dueSuspect(100, new int[] {101}, new int[] {-1}, 0);
        dueSuspect(100, new int[] {50}, new int[] {50, 51}, 1);
        dueSuspect(100, new int[] {-51, -50}, new int[] {-50}, 1);
        dueSuspect(1, new int[] {1, 1, 1, 1, 1, 2}, new int[] {0, 0, 0, 0, -1}, 0);
        dueSuspect(1, new int[] {1, 1, 1, 1, 2}, new int[] {0, 0, 0, 0, 0, -1}, 1);
        WeighingDesign x = ofRows(1, 2, 2, 1, 1, 4, 4, 1);
        due("count(8) of two pairs", x.count(8), 0);
        x.take(3, 1000);
        due("count(8) of two pairs, the second one above", x.count(8), 1);
        x.take(0, 5000);
        x.dropRow(3);
        due("count(8) of two pairs, the first one above", x.count(8), 1);
        x.dropReading(1, 0);
        due("count(8) without readings", x.count(8), 0);
    }

    private static void dueSuspect(int limit, int[] readings, int[] swapped, int suspect) {
        WeighingDesign x = new WeighingDesign();
        x.set(2, limit);
        weigh(x, 1, 2, readings);
        weigh(x, 2, 1, swapped);
        due("count(8) with the limit " + limit, x.count(8), suspect);
        x.set(1, 1);
        due("count(8) with the pan 1, the limit " + limit, x.count(8), suspect);
    }

    // "the limit (0 to 100000, initially 100)"
    private static void limitsOfTheLimit() {
        about = "the limit";
        WeighingDesign x = ofRows(1, 2, 2, 1);
        due("count(2)", x.count(2), 100);
        x.take(0, 199);
        due("count(8) of 101", x.count(8), 1);
        x.dropReading(0, 1);
        x.take(0, 197);
        due("count(8) of 100", x.count(8), 0);
        due("set(2, -1)", x.set(2, -1), INVALID);
        due("set(2, 100001)", x.set(2, 100001), INVALID);
        due("set(2, 0)", x.set(2, 0), 100);
        due("set(2, 100000)", x.set(2, 100000), 0);
        dueSuspect(0, new int[] {7}, new int[] {-7}, 0);
        dueSuspect(0, new int[] {0, 0, 0, 0, 0, 1}, new int[] {0, 0, 0, 0, -1}, 1);
        dueSuspect(100000, new int[] {50000}, new int[] {50000}, 0);
        dueSuspect(100000, new int[] {50000}, new int[] {50001}, 1);
        dueSuspect(100000, new int[] {-50000}, new int[] {-50000}, 0);
        dueSuspect(100000, new int[] {-50001}, new int[] {-50000}, 1);
        dueSuspect(100000, new int[] {100000, 100000, 100000, 100000, 100000, 100000},
                new int[] {100000, 100000, 100000, 100000, 100000, 100000}, 1);
        dueSuspect(100000, new int[] {-100000, -100000, -100000, -100000, -100000, -100000},
                new int[] {100000, 100000, 100000, 100000, 100000}, 0);
    }

    // "There is a text of at most 80 characters, initially empty"
    private static void eightyCharacters() {
        about = "80 characters";
        WeighingDesign x = new WeighingDesign();
        due("count(12)", x.count(12), 0);
        due("clearText()", x.clearText(), 0);
        for (int length = 1; length <= 80; length++) {
            due("type(59)", x.type(59), length);
        }
        due("type(59) as the 81st", x.type(59), FULL);
        due("count(12)", x.count(12), 80);
        due("clearText()", x.clearText(), 80);
        due("count(12)", x.count(12), 0);
        due("type(126)", x.type(126), 1);
        due("fault(1)", x.fault(1), 1);
        due("clearText()", x.clearText(), 1);
        due("fault(1) of the empty text", x.fault(1), NOTHING);
        due("enter() of the empty text", x.enter(), 0);
    }

    // "the masses of the left pan (digits 0 to 4, ascending), ":", those of the right pan likewise,
    // "="", and "also if a pan is empty, a digit stands twice"
    private static void formOfAMassList() {
        about = "form of masses";
        WeighingDesign x = new WeighingDesign();
        String[] good = {"0:1=5;", "4:3=5;", "0123:4=5;", "4:0123=5;", "024:13=5;", "0:1234=5;", "1:2=5;"};
        for (String text : good) {
            dueNoFault(x, text);
        }
        String[] bad = {":1=5;", "0:=5;", ":=5;", "00:1=5;", "0:11=5;", "01233:4=5;", "4:01123=5;",
            "10:2=5;", "2:10=5;", "021:3=5;", "3:021=5;", "010:2=5;", "5:0=5;", "0:5=5;", "05:1=5;",
            "9:0=5;", "/:0=5;", "0:/=5;", "a:0=5;", "0 :1=5;", "0: 1=5;", " 0:1=5;", "0,1:2=5;", "0:1:2=5;",
            "0::1=5;", "01=5;", "0;1=5;", "0:15;", "0:1==5;", "0:1:5;", "-0:1=5;", "0:-1=5;", "=5;"};
        for (String text : bad) {
            dueFault(x, text, 0, 1);
        }
    }

    // "and the reading: an optional "-" and 1 to 6 digits"
    private static void formOfAReading() {
        about = "form of a reading";
        WeighingDesign x = new WeighingDesign();
        String[] good = {"0", "9", "-1", "-0", "00", "000000", "-000000", "099999", "100000", "-100000"};
        int[] readings = {0, 9, -1, 0, 0, 0, 0, 99999, 100000, -100000};
        for (int i = 0; i < good.length; i++) {
            dueNoFault(x, "0:1=" + good[i] + ";");
            due("enter() of " + good[i], x.enter(), 1);
            due("reading(0, 0) of " + good[i], x.reading(0, 0), readings[i]);
            x.undo();
        }
        String[] bad = {"", "-", "--1", "+1", "1-", "-+1", "0000000", "-0000000", "0100000", "1234567",
            "4294967297", "-4294967296", " 1", "1 ", "- 1", "1.0", "1:", "/", ":", "1=", "a", "0x1"};
        for (String reading : bad) {
            dueFault(x, "0:1=" + reading + ";", 0, 1);
        }
    }

    // "each followed by ";"", and "or the ";" is missing"
    private static void endOfARow() {
        about = "the end of a row";
        String row = "01:23=-123456;";
        WeighingDesign x = new WeighingDesign();
        for (int length = 1; length < row.length(); length++) {
            dueFault(x, row.substring(0, length), 0, 1);
        }
        dueFault(x, row, 0, 3);
        row = "0:1=-00001;4:3=2;";
        x.clearText();
        for (int length = 1; length <= row.length(); length++) {
            due("type", x.type(row.charAt(length - 1)), length);
            long position = length < 11 ? 0 : length == 11 || length == 17 ? NOTHING : 11;
            due("fault(0) of " + length + " characters", x.fault(0), position);
            due("fault(1) of " + length + " characters", x.fault(1), position == NOTHING ? NOTHING : 1);
        }
    }

    // "if ... the ";" is missing", and whatever else stands in its place or behind it
    private static void endOfTheText() {
        about = "the end of the text";
        WeighingDesign x = new WeighingDesign();
        dueFault(x, ";", 0, 1);
        dueFault(x, "0:1=5;;", 6, 1);
        dueFault(x, "0:1=5;0:1=6;;0:1=7;", 12, 1);
        dueFault(x, "0:1=5 ;", 0, 1);
        dueFault(x, "0:1=5; ", 6, 1);
        dueFault(x, "0:1=50:2=5;", 0, 1);
        dueFault(x, "0:1=5,0:2=5;", 0, 1);
        dueFault(x, "0:1=5:", 0, 1);
        dueFault(x, "0:1=5<", 0, 1);
        x.clearText();
        typeAll(x, "0:1=00000;0:1=00000;0:1=00000;0:1=00000;0:1=00000;0:1=00000;0:2=00000;0:2=00001;");
        due("count(12)", x.count(12), 80);
        due("fault(0), the last \";\" at the very end", x.fault(0), NOTHING);
        dueFault(x, "0:1=00000;0:1=00000;0:1=00000;0:1=00000;0:1=00000;0:1=00000;0:2=00000;0:2=000001", 70, 1);
    }

    // "2 if a mass is on both pans"
    private static void massOnBothPans() {
        about = "a mass on both pans";
        WeighingDesign x = new WeighingDesign();
        for (int mass = 0; mass < 5; mass++) {
            dueFault(x, mass + ":" + mass + "=0;", 0, 2);
        }
        dueFault(x, "0:01=0;", 0, 2);
        dueFault(x, "0123:34=0;", 0, 2);
        dueFault(x, "01234:01234=0;", 0, 2);
        dueFault(x, "0:1=0;04:1=0;04:14=0;", 13, 2);
    }

    // "3 if the reading is out of its range"
    private static void readingOutOfRange() {
        about = "a reading out of range";
        WeighingDesign x = new WeighingDesign();
        dueFault(x, "0:1=100001;", 0, 3);
        dueFault(x, "0:1=-100001;", 0, 3);
        dueFault(x, "0:1=999999;", 0, 3);
        dueFault(x, "0:1=-999999;", 0, 3);
        dueFault(x, "0:1=100000;0:1=-100000;0:1=100001;", 23, 3);
        dueNoFault(x, "0:1=100000;0:1=-100000;0:1=099999;");
    }

    private static final String TWELVE_ROWS = "0:1=1;0:2=1;0:3=1;0:4=1;1:0=1;1:2=1;1:3=1;1:4=1;2:0=1;2:1=1;2:3=1;2:4=1;";

    // "4 if there is no room for it (rows and readings that the text makes ahead of it count)"
    private static void roomForRows() {
        about = "room for rows";
        WeighingDesign x = new WeighingDesign();
        dueNoFault(x, TWELVE_ROWS);
        dueNoFault(x, TWELVE_ROWS + "2:4=1;");
        dueFault(x, TWELVE_ROWS + "3:0=1;", 72, 4);
        due("count(3) after fault", x.count(3), 0);
    }

    /** Rows that there are already count too, but for those that the text takes its readings in. */
    private static void roomBesideRows() {
        about = "room beside rows";
        WeighingDesign x = new WeighingDesign();
        weigh(x, 8, 1);
        dueFault(x, TWELVE_ROWS, 66, 4);
        weigh(x, 1, 2);
        dueFault(x, TWELVE_ROWS, 66, 4);
        x.dropRow(0);
        dueNoFault(x, TWELVE_ROWS);
        due("enter()", x.enter(), 12);
        due("count(3)", x.count(3), 12);
        dueFault(x, "4:0=1;", 0, 4);
        dueFault(x, "3:0=1;0:1=1;", 0, 4);
        dueNoFault(x, "2:4=1;");
        x.dropRow(11);
        dueNoFault(x, "4:0=1;4:0=1;");
        dueFault(x, "4:0=1;2:4=1;", 6, 4);
    }

    private static void roomForReadings() {
        about = "room for readings";
        String six = "0:1=1;0:1=2;0:1=3;0:1=4;0:1=5;0:1=6;";
        WeighingDesign x = new WeighingDesign();
        dueNoFault(x, six);
        dueFault(x, six + "0:1=7;", 36, 4);
        dueNoFault(x, six + "1:0=7;");
        weigh(x, 1, 2);
        dueNoFault(x, six);
        x.take(0, 0);
        dueFault(x, six, 30, 4);
        for (int n = 0; n < 4; n++) {
            x.take(0, 0);
        }
        dueNoFault(x, "0:1=1;");
        dueFault(x, "0:1=1;0:1=1;", 6, 4);
        dueFault(x, "0:1=1;1:0=1;0:1=1;", 12, 4);
        x.take(0, 0);
        dueFault(x, "0:1=1;", 0, 4);
        dueNoFault(x, "1:0=1;");
        x.dropReading(0, 5);
        dueNoFault(x, "0:1=1;");
        WeighingDesign y = fullDesign();
        dueFault(y, "2:4=0;", 0, 4);
        y.dropReading(11, 0);
        dueNoFault(y, "2:4=0;");
        dueFault(y, "2:4=0;2:4=0;", 6, 4);
    }

    // "the first one of these that applies"
    private static void firstReason() {
        about = "the first reason";
        for (WeighingDesign x : new WeighingDesign[] {new WeighingDesign(), fullDesign()}) {
            dueFault(x, "0:0=999999", 0, 1);
            dueFault(x, "00:0=1;", 0, 1);
            dueFault(x, "01:1=1234567;", 0, 1);
            dueFault(x, "0:1=999999", 0, 1);
            dueFault(x, "0:0=999999;", 0, 2);
            dueFault(x, "0:0=5;", 0, 2);
            dueFault(x, "0:1=100001;", 0, 3);
            dueFault(x, "3:4=-100001;", 0, 3);
        }
        dueFault(fullDesign(), "3:4=1;", 0, 4);
        dueFault(fullDesign(), "0:1=1", 0, 1);
    }

    // "the first character of the first row that is not possible"
    private static void firstRow() {
        about = "the first row";
        WeighingDesign x = new WeighingDesign();
        dueFault(x, "0:1=100001;0:0=1;?", 0, 3);
        dueFault(x, "0:1=1;0:0=1;0:1=100001;?", 6, 2);
        dueFault(x, "0:1=1;0:1=-100001;0:0=1;", 6, 3);
        dueFault(x, "01:234=-00001;?0:0=1;", 14, 1);
        WeighingDesign y = fullDesign();
        dueFault(y, "0:1=1;0:0=1;", 0, 4);
        dueFault(y, "0:0=1;0:1=1;", 0, 2);
        WeighingDesign z = new WeighingDesign();
        typeAll(z, "0:1=00001;0:1=00001;0:1=00001;0:1=00001;0:1=00001;0:1=00001;0:2=00001;0:2=00001?");
        due("fault(0) of 80 characters", z.fault(0), 70);
        due("fault(1) of 80 characters", z.fault(1), 1);
    }

    // "a reading is taken in the row with these sets, if there is one (also one that the text made),
    // and otherwise in a new row"
    private static void enteredRows() {
        about = "entered rows";
        WeighingDesign x = new WeighingDesign();
        weigh(x, 2, 1, 7);
        weigh(x, 1, 2);
        typeAll(x, "0:1=1;3:4=2;1:0=3;3:4=4;4:3=5;");
        due("enter()", x.enter(), 5);
        due("count(3)", x.count(3), 4);
        int[][] rows = {{2, 1, 7, 3}, {1, 2, 1}, {8, 16, 2, 4}, {16, 8, 5}};
        for (int row = 0; row < rows.length; row++) {
            due("row(" + row + ", 0)", x.row(row, 0), rows[row][0]);
            due("row(" + row + ", 1)", x.row(row, 1), rows[row][1]);
            due("row(" + row + ", 2)", x.row(row, 2), rows[row].length - 2);
            for (int n = 0; n + 2 < rows[row].length; n++) {
                due("reading(" + row + ", " + n + ")", x.reading(row, n), rows[row][n + 2]);
            }
        }
        due("count(12), the text stays", x.count(12), 30);
        due("enter() again", x.enter(), 5);
        due("count(3)", x.count(3), 4);
        due("count(4)", x.count(4), 11);
        due("undo() of all five readings", x.undo(), 4);
        due("count(4)", x.count(4), 6);
    }

    /** None, one, and as many as eighty characters hold: thirteen. */
    private static void asManyAsATextHolds() {
        about = "readings of a text";
        WeighingDesign x = new WeighingDesign();
        due("enter() of none", x.enter(), 0);
        due("count(3)", x.count(3), 0);
        typeAll(x, "4:0123=-100000;");
        due("enter() of one", x.enter(), 1);
        due("row(0, 1)", x.row(0, 1), 15);
        x.dropRow(0);
        x.clearText();
        typeAll(x, TWELVE_ROWS + "0:1=-10;");
        due("count(12)", x.count(12), 80);
        due("enter() of thirteen", x.enter(), 13);
        due("count(3)", x.count(3), 12);
        due("count(4)", x.count(4), 13);
        due("reading(0, 1)", x.reading(0, 1), -10);
        due("reading(11, 0)", x.reading(11, 0), 1);
        for (int taken = 4; taken <= 6; taken += 2) {
            due("enter() again", x.enter(), 13);
            due("row(0, 2)", x.row(0, 2), taken);
        }
        due("enter() with a full row", x.enter(), IMPOSSIBLE);
        due("fault(0)", x.fault(0), 0);
        due("count(4)", x.count(4), 39);
    }

    // "The changes are the calls of set, addRow, dropRow, take, dropReading and enter that return
    // no error"
    private static void changes() {
        about = "changes";
        WeighingDesign x = new WeighingDesign();
        due("count(11)", x.count(11), 0);
        x.set(0, 5);
        due("count(11) after set", x.count(11), 1);
        x.addRow(1, 2);
        due("count(11) after addRow", x.count(11), 2);
        x.take(0, 9);
        due("count(11) after take", x.count(11), 3);
        x.dropReading(0, 0);
        due("count(11) after dropReading", x.count(11), 4);
        x.dropRow(0);
        due("count(11) after dropRow", x.count(11), 5);
        due("undo() of dropRow", x.undo(), 4);
        due("count(3)", x.count(3), 1);
        due("undo() of dropReading", x.undo(), 3);
        due("reading(0, 0)", x.reading(0, 0), 9);
        due("undo() of take", x.undo(), 2);
        due("count(4)", x.count(4), 0);
        due("undo() of addRow", x.undo(), 1);
        due("count(3)", x.count(3), 0);
        due("undo() of set", x.undo(), 0);
        due("count(0)", x.count(0), 0);
        typeAll(x, "0:1=5;");
        x.enter();
        due("count(11) after enter", x.count(11), 1);
        due("undo() of enter", x.undo(), 0);
        due("count(3)", x.count(3), 0);
        due("undo() of none", x.undo(), IMPOSSIBLE);
    }

    // "(also if nothing becomes different)"
    private static void changesToTheSame() {
        about = "changes to the same";
        WeighingDesign x = new WeighingDesign();
        due("set(0, 0)", x.set(0, 0), 0);
        due("count(11)", x.count(11), 1);
        due("set(1, 0)", x.set(1, 0), 0);
        due("count(11)", x.count(11), 2);
        due("set(2, 100)", x.set(2, 100), 100);
        due("count(11)", x.count(11), 3);
        due("enter() of nothing", x.enter(), 0);
        due("count(11)", x.count(11), 4);
        for (int states = 3; states >= 0; states--) {
            due("undo()", x.undo(), states);
        }
        due("undo() of none", x.undo(), IMPOSSIBLE);
    }

    /** No other call is a change; an undone change is not kept for another undo. */
    private static void noChanges() {
        about = "no changes";
        WeighingDesign x = star();
        x.undo();
        x.undo();
        due("count(11)", x.count(11), 3);
        x.type(48);
        x.clearText();
        x.fault(0);
        x.row(0, 4);
        x.reading(0, 0);
        x.find(1, 2);
        x.value(1, 0);
        x.pan(0);
        x.residual(0, 0, 0);
        x.balance(0, 0);
        x.mean(0, 0);
        x.worst(0);
        x.without(0, 0, 1, 0);
        x.chain(1);
        x.panBy(0, 0);
        x.mostSuspect();
        due("count(11) after calls that ask", x.count(11), 3);
        due("undo()", x.undo(), 2);
        due("count(4)", x.count(4), 2);
        x.set(0, 9);
        due("count(11) of a change after undo()", x.count(11), 3);
        due("undo()", x.undo(), 2);
        due("count(4)", x.count(4), 2);
        due("count(0)", x.count(0), 0);
    }

    // "A history of at most 5 states is kept: ... if there are 6 states then, the oldest one is
    // dropped"
    private static void sixthState() {
        about = "the sixth state";
        for (int kind = 0; kind < 6; kind++) {
            WeighingDesign x = star();
            typeAll(x, "0:1=5;");
            for (int n = 1; n <= 5; n++) {
                x.set(0, n);
            }
            due("count(11) of five", x.count(11), 5);
            change(x, kind);
            due("count(11) after the change " + kind, x.count(11), 5);
            for (int n = 5; n >= 1; n--) {
                due("undo()", x.undo(), n - 1);
                due("count(0)", x.count(0), n);
                due("count(11)", x.count(11), n - 1);
                due("count(4)", x.count(4), 4);
            }
            due("undo() of the one that was dropped", x.undo(), IMPOSSIBLE);
            due("count(0)", x.count(0), 1);
        }
    }

    /** The six kinds of changes, each possible in the designs of these tests. */
    private static void change(WeighingDesign x, int kind) {
        int answer = switch (kind) {
            case 0 -> x.set(2, 55);
            case 1 -> x.addRow(16, 1);
            case 2 -> x.dropRow(0);
            case 3 -> x.take(0, 77);
            case 4 -> x.dropReading(0, 0);
            default -> x.enter();
        };
        due("the change " + kind + " is an error", answer < 0 ? 1 : 0, 0);
    }

    // "each change records everything before it but the text"
    private static void statesAreWhole() {
        about = "states are whole";
        for (int kind = 0; kind < 6; kind++) {
            WeighingDesign x = fullDesign();
            x.set(0, -77);
            x.set(1, 1);
            x.set(2, 33);
            x.dropRow(3);
            x.dropReading(0, 2);
            typeAll(x, "0:1=5;");
            String before = look(x);
            change(x, kind);
            due("the change " + kind + " changes nothing", look(x).equals(before) ? 1 : 0, 0);
            due("undo()", x.undo(), 4);
            dueSame("undo() of the change " + kind, look(x), before);
        }
        WeighingDesign x = fullDesign();
        String before = look(x);
        for (int n = 0; n < 5; n++) {
            x.dropRow(n);
        }
        for (int n = 0; n < 5; n++) {
            x.undo();
        }
        dueSame("five undone", look(x), before);
    }

    /** Each setting, row and reading that a state has comes back, one change at a time. */
    private static void statesOfEachKind() {
        about = "states of each kind";
        for (int what = 0; what < 3; what++) {
            WeighingDesign x = new WeighingDesign();
            int initially = x.count(what);
            x.set(what, 1);
            x.set(what, 0);
            due("undo()", x.undo(), 1);
            due("count(" + what + ")", x.count(what), 1);
            due("undo()", x.undo(), 0);
            due("count(" + what + ")", x.count(what), initially);
        }
        WeighingDesign x = fullDesign();
        x.dropRow(0);
        x.addRow(16, 1);
        x.take(11, -5);
        due("undo() of take", x.undo(), 4);
        due("row(11, 2)", x.row(11, 2), 0);
        due("undo() of addRow", x.undo(), 3);
        due("count(3)", x.count(3), 11);
        due("undo() of dropRow", x.undo(), 2);
        due("row(0, 1)", x.row(0, 1), 2);
        due("row(0, 2)", x.row(0, 2), 6);
        due("reading(0, 5)", x.reading(0, 5), 5);
        due("reading(11, 5)", x.reading(11, 5), 115);
        due("undo() of the last take", x.undo(), 1);
        due("reading(11, 5)", x.reading(11, 5), INVALID);
    }

    private static void textIsNotRecorded() {
        about = "the text is not recorded";
        WeighingDesign x = new WeighingDesign();
        typeAll(x, "0:1=5;");
        x.set(0, 1);
        typeAll(x, "0:2=6;");
        due("undo()", x.undo(), 0);
        due("count(12)", x.count(12), 12);
        due("enter()", x.enter(), 2);
        x.clearText();
        due("undo()", x.undo(), 0);
        due("count(12)", x.count(12), 0);
        due("enter()", x.enter(), 0);
        typeAll(x, "?");
        due("undo()", x.undo(), 0);
        due("fault(1)", x.fault(1), 1);
    }
}
