import java.util.function.IntToLongFunction;

// What stands under the heads of the promises: each argument at the ends of its range and beyond
// them; each error, also where several ones apply; and that a call that returns an error, or only
// asks, changes nothing.
public final class RangeTests extends Checks {
    public static void main(String[] args) {
        rangesOfSettings();
        rangesOfMasses();
        rangesOfRows();
        rangesOfReadings();
        rangesOfParts();
        rangesOfWhat();
        rangesOfCharacters();
        neededRows();
        worstReadings();
        mostSuspectRows();
        errorsOfSettings();
        errorsOfRows();
        errorsOfReadings();
        errorsOfAskedRows();
        errorsOfUndo();
        errorsOfValues();
        errorsOfResiduals();
        errorsOfWithout();
        errorsOfMeans();
        errorsOfChains();
        errorsOfTexts();
        askingChangesNothing();
        aWholeLifeOfCalls();
        finish();
    }

    /** One argument, the others being right: in its range to the ends, and beyond them refused. */
    private static void dueRange(String call, int least, int most, IntToLongFunction answer) {
        for (int argument : new int[] {least, most}) {
            due(call + " of " + argument + " is refused", answer.applyAsLong(argument) == INVALID ? 1 : 0, 0);
        }
        int[] beyond = {least - 1, most + 1, most + 32, most + 65536, least - 65536, Integer.MIN_VALUE,
            Integer.MIN_VALUE + least, Integer.MAX_VALUE};
        for (int argument : beyond) {
            due(call + " of " + argument, answer.applyAsLong(argument), INVALID);
        }
    }

    private static void rangesOfSettings() {
        about = "ranges of settings";
        WeighingDesign x = star();
        dueRange("set(0, ..)", -100000, 100000, n -> x.set(0, n));
        dueRange("set(1, ..)", 0, 1, n -> x.set(1, n));
        dueRange("set(2, ..)", 0, 100000, n -> x.set(2, n));
        dueRange("set(.., 0)", 0, 2, n -> x.set(n, 0));
        dueRange("set(.., 1)", 0, 2, n -> x.set(n, 1));
        WeighingDesign y = new WeighingDesign();
        int[][] settings = {{0, 0, -100000}, {0, -100000, 100000}, {0, 100000, 0}, {1, 0, 1}, {1, 1, 1},
            {1, 1, 0}, {2, 100, 0}, {2, 0, 100000}, {2, 100000, 100000}, {2, 100000, 1}};
        for (int[] setting : settings) {
            due("set(" + setting[0] + ", " + setting[2] + ")", y.set(setting[0], setting[2]), setting[1]);
            due("count(" + setting[0] + ")", y.count(setting[0]), setting[2]);
        }
    }

    private static void rangesOfMasses() {
        about = "ranges of masses";
        WeighingDesign x = star(10, 20);
        dueRange("value(.., 0)", 0, 4, n -> x.value(n, 0));
        dueRange("value(.., 1)", 0, 4, n -> x.value(n, 1));
        dueRange("balance(.., 0)", 0, 4, n -> x.balance(n, 0));
        dueRange("balance(.., 1)", 0, 4, n -> x.balance(n, 1));
        dueRange("without(0, 0, .., 0)", 1, 4, n -> x.without(0, 0, n, 0));
        dueRange("chain(..)", 0, 4, n -> x.chain(n));
        dueRange("find(.., 1)", 1, 31, n -> x.find(n, 1));
        dueRange("find(1, ..)", 1, 31, n -> x.find(1, n));
        dueRange("addRow(.., 16)", 1, 15, n -> new WeighingDesign().addRow(n, 16));
        dueRange("addRow(16, ..)", 1, 15, n -> new WeighingDesign().addRow(16, n));
        dueRange("addRow(.., 1)", 2, 30, n -> new WeighingDesign().addRow(n, 1));
        dueRange("addRow(1, ..)", 2, 30, n -> new WeighingDesign().addRow(1, n));
    }

    private static void rangesOfRows() {
        about = "ranges of rows";
        for (WeighingDesign x : new WeighingDesign[] {star(10, 20), fullDesign()}) {
            int last = x.count(3) - 1;
            dueRange("take(.., 0)", 0, last, n -> x.take(n, 0));
            for (int what = 0; what < 5; what++) {
                int told = what;
                dueRange("row(.., " + what + ")", 0, last, n -> x.row(n, told));
            }
            dueRange("reading(.., 0)", 0, last, n -> x.reading(n, 0));
            dueRange("residual(.., 0, 0)", 0, last, n -> x.residual(n, 0, 0));
            dueRange("mean(.., 0)", 0, last, n -> x.mean(n, 0));
            dueRange("without(.., 0, 1, 0)", 0, last, n -> x.without(n, 0, 1, 0));
            dueRange("panBy(.., 0)", 0, last, n -> x.panBy(n, 0));
            dueRange("dropReading(.., 0)", 0, last, n -> x.dropReading(n, 0));
        }
        dueRange("dropRow(..) of four", 0, 3, n -> star().dropRow(n));
        dueRange("dropRow(..) of twelve", 0, 11, n -> fullDesign().dropRow(n));
        due("dropRow(0) of none", new WeighingDesign().dropRow(0), INVALID);
        due("take(0, 0) of none", new WeighingDesign().take(0, 0), INVALID);
        due("dropReading(0, 0) of none", new WeighingDesign().dropReading(0, 0), INVALID);
        due("residual(0, 0, 0) of none", new WeighingDesign().residual(0, 0, 0), INVALID);
        due("without(0, 0, 1, 0) of none", new WeighingDesign().without(0, 0, 1, 0), INVALID);
        due("panBy(0, 0) of none", new WeighingDesign().panBy(0, 0), INVALID);
        due("mean(0, 0) of none", new WeighingDesign().mean(0, 0), INVALID);
        for (int what = 0; what < 5; what++) {
            due("row(0, " + what + ") of none", new WeighingDesign().row(0, what), INVALID);
        }
    }

    /** 715827883 times 6 wraps around to 2: such a row must not be taken for another one. */
    private static void rangesOfReadings() {
        about = "ranges of readings";
        dueRange("take(0, ..)", -100000, 100000, n -> star().take(0, n));
        WeighingDesign x = fullDesign();
        for (int row = 0; row < 12; row += 11) {
            int at = row;
            dueRange("reading(" + row + ", ..)", 0, 5, n -> x.reading(at, n));
            dueRange("residual(" + row + ", .., 0)", 0, 5, n -> x.residual(at, n, 0));
            dueRange("without(" + row + ", .., 1, 0)", 0, 5, n -> x.without(at, n, 1, 0));
            dueRange("dropReading(" + row + ", ..)", 0, 5, n -> fullDesign().dropReading(at, n));
        }
        due("reading(-1, 6)", x.reading(-1, 6), INVALID);
        due("reading(1, -1)", x.reading(1, -1), INVALID);
        due("reading(715827883, 0)", x.reading(715827883, 0), INVALID);
        due("residual(715827883, 0, 0)", x.residual(715827883, 0, 0), INVALID);
        due("without(715827883, 0, 1, 0)", x.without(715827883, 0, 1, 0), INVALID);
        due("dropReading(715827883, 0)", x.dropReading(715827883, 0), INVALID);
        due("take(715827883, 0)", x.take(715827883, 0), INVALID);
        WeighingDesign y = star(1, 2, 3);
        dueRange("reading(0, ..) of three", 0, 2, n -> y.reading(0, n));
        dueRange("reading(1, ..) of one", 0, 0, n -> y.reading(1, n));
        dueRange("residual(0, .., 0) of three", 0, 2, n -> y.residual(0, n, 0));
        dueRange("without(0, .., 1, 0) of three", 0, 2, n -> y.without(0, n, 1, 0));
        dueRange("dropReading(0, ..) of three", 0, 2, n -> star(1, 2, 3).dropReading(0, n));
        dueRange("dropReading(1, ..) of one", 0, 0, n -> star(1, 2, 3).dropReading(1, n));
        y.addRow(4, 8);
        due("reading(4, 0) of none", y.reading(4, 0), INVALID);
        due("residual(4, 0, 0) of none", y.residual(4, 0, 0), INVALID);
        due("without(4, 0, 1, 0) of none", y.without(4, 0, 1, 0), INVALID);
        due("dropReading(4, 0) of none", y.dropReading(4, 0), INVALID);
    }

    private static void rangesOfParts() {
        about = "ranges of parts";
        WeighingDesign x = fullDesign();
        for (int pan = 0; pan < 2; pan++) {
            x.set(1, pan);
            for (int mass = 0; mass < 5; mass++) {
                int of = mass;
                dueRange("value(" + mass + ", ..)", 0, 1, n -> x.value(of, n));
                dueRange("balance(" + mass + ", ..)", 0, 1, n -> x.balance(of, n));
            }
            dueRange("pan(..)", 0, 1, n -> x.pan(n));
            dueRange("residual(0, 0, ..)", 0, 1, n -> x.residual(0, 0, n));
            dueRange("without(0, 0, 4, ..)", 0, 1, n -> x.without(0, 0, 4, n));
        }
        dueRange("mean(0, ..)", 0, 1, n -> x.mean(0, n));
        dueRange("panBy(0, ..)", 0, 1, n -> x.panBy(0, n));
    }

    private static void rangesOfWhat() {
        about = "ranges of what";
        for (WeighingDesign x : new WeighingDesign[] {new WeighingDesign(), star(), fullDesign()}) {
            dueRange("count(..)", 0, 13, n -> x.count(n));
            dueRange("fault(..)", 0, 1, n -> x.fault(n));
            typeAll(x, "?");
            dueRange("fault(..) of a fault", 0, 1, n -> x.fault(n));
            dueRange("worst(..)", 0, 1, n -> x.worst(n));
        }
        WeighingDesign x = star();
        dueRange("row(0, ..)", 0, 4, n -> x.row(0, n));
        dueRange("row(3, ..)", 0, 4, n -> x.row(3, n));
    }

    private static void rangesOfCharacters() {
        about = "ranges of characters";
        WeighingDesign x = new WeighingDesign();
        dueRange("type(..)", 32, 126, n -> x.type(n));
        due("count(12)", x.count(12), 2);
        WeighingDesign y = new WeighingDesign();
        for (int character = 32; character <= 126; character++) {
            due("type(" + character + ")", y.type(character), 1);
            due("clearText()", y.clearText(), 1);
        }
    }

    // ---- none, one, and as many as there may be; the first one of several

    // "the design is whole, and would not be without this row"
    private static void neededRows() {
        about = "needed rows";
        dueNeeded(none());
        dueNeeded(loose(), 0, 0, 0);
        dueNeeded(star(), 1, 1, 1, 1);
        dueNeeded(star(10, 20), 1, 1, 1, 1);
        dueNeeded(loop(), 0, 0, 0, 1, 1);
        dueNeeded(fullDesign(), 0, 0, 0, 0, 0, 0, 0, 0, 0, 0, 0, 0);
        WeighingDesign x = star();
        weigh(x, 2, 4, 3);
        dueNeeded(x, 0, 0, 1, 1, 0);
        x.set(1, 1);
        dueNeeded(x, 1, 1, 1, 1, 1);
        x.addRow(16, 1);
        dueNeeded(x, 1, 1, 1, 1, 1, 0);
        x.take(5, 0);
        dueNeeded(x, 0, 0, 1, 0, 0, 0);
        x.dropReading(2, 0);
        dueNeeded(x, 0, 0, 0, 0, 0, 0);
        WeighingDesign y = twelveRows();
        for (int row = 0; row < 4; row++) {
            y.take(row, 0);
        }
        dueNeeded(y, 1, 1, 1, 1, 0, 0, 0, 0, 0, 0, 0, 0);
        y.take(11, 0);
        dueNeeded(y, 1, 0, 1, 0, 0, 0, 0, 0, 0, 0, 0, 0);
    }

    private static void dueNeeded(WeighingDesign x, int... needed) {
        int all = 0;
        for (int row = 0; row < needed.length; row++) {
            due("row(" + row + ", 4)", x.row(row, 4), needed[row]);
            all += needed[row];
        }
        due("count(3)", x.count(3), needed.length);
        due("count(13)", x.count(13), all);
    }

    // "of several the one of the lowest row, then the lowest one"
    private static void worstReadings() {
        about = "worst readings";
        dueWorst(star(), 0, 0);
        dueWorst(star(1, 2), 0, 0);
        dueWorst(star(1, 2, 3, 2), 0, 0);
        dueWorst(star(2, 1, 3), 0, 1);
        dueWorst(star(2, 3, 1), 0, 1);
        dueWorst(star(2, 2, 2, 2, 2, 8), 0, 5);
        dueWorst(star(-2, -2, -2, -2, -2, -8), 0, 5);
        WeighingDesign x = star();
        x.take(3, 42);
        dueWorst(x, 3, 0);
        x.take(2, 32);
        dueWorst(x, 2, 0);
        x.take(2, 31);
        dueWorst(x, 2, 0);
        x.take(3, 40);
        dueWorst(x, 3, 1);
        x.dropReading(3, 1);
        dueWorst(x, 2, 0);
        WeighingDesign z = twelveRows();
        for (int row = 8; row < 12; row++) {
            z.take(row, 10);
        }
        dueWorst(z, 8, 0);
        WeighingDesign y = twelveRows();
        for (int row = 0; row < 12; row++) {
            y.take(row, 0);
        }
        dueWorst(y, 0, 0);
        for (int n = 1; n < 6; n++) {
            y.take(11, n == 5 ? 1 : 0);
        }
        dueWorst(y, 11, 5);
    }

    private static void dueWorst(WeighingDesign x, int row, int reading) {
        due("worst(0)", x.worst(0), row);
        due("worst(1)", x.worst(1), reading);
    }

    // "the lowest one of those with a swapped row whose pan difference has the greatest absolute value"
    private static void mostSuspectRows() {
        about = "most suspect rows";
        due("by thirds and halves", pairs(new int[] {1, 0, 0}, new int[] {1, 0}), 2);
        due("by halves and thirds", pairs(new int[] {1, 0}, new int[] {1, 0, 0}), 0);
        due("by halves and minus thirds", pairs(new int[] {1, 0}, new int[] {-1, 0, 0}), 0);
        due("by minus halves and thirds", pairs(new int[] {-1, 0}, new int[] {1, 0, 0}), 0);
        due("by thirds and minus halves", pairs(new int[] {1, 0, 0}, new int[] {-1, 0}), 2);
        due("by sixths and fifths", pairs(new int[] {5, 0, 0, 0, 0, 0}, new int[] {4, 0, 0, 0, 0}), 0);
        due("by fifths and sixths", pairs(new int[] {4, 0, 0, 0, 0}, new int[] {5, 0, 0, 0, 0, 0}), 2);
        due("by two halves and one", pairs(new int[] {2, 0}, new int[] {1}), 0);
        due("by one and minus two halves", pairs(new int[] {1}, new int[] {-2, 0}), 0);
        due("by none and none", pairs(new int[] {0, 0}, new int[] {0}), 0);
        due("by none and a sixth", pairs(new int[] {0}, new int[] {0, 0, 0, 0, 0, 1}), 2);
        due("by the greatest and the least", pairs(new int[] {100000}, new int[] {-100000, -100000}), 0);
        due("by nearly the greatest and the least",
                pairs(new int[] {100000, 100000, 100000, 100000, 100000, 99999}, new int[] {-100000}), 2);
    }

    /** Two pairs of swapped rows; the second row of each has the reading 0 alone. */
    private static long pairs(int[] first, int[] second) {
        WeighingDesign x = new WeighingDesign();
        weigh(x, 1, 2, first);
        weigh(x, 2, 1, 0);
        weigh(x, 4, 8, second);
        weigh(x, 8, 4, 0);
        return x.mostSuspect();
    }

    // ---- errors, and that they change nothing

    /** How an object is made, and a call on it: the same way as often as it is asked for. */
    private interface Making {
        WeighingDesign make();
    }

    private interface Call {
        long on(WeighingDesign x);
    }

    private static void dueError(String call, Making making, long error, Call refused) {
        due(call, refused.on(making.make()), error);
        dueUnchanged(call, making, refused);
    }

    /** Two objects made alike, one of them with the call: the same in all states of their history. */
    private static void dueUnchanged(String call, Making making, Call asked) {
        for (int back = 0; back <= 5; back++) {
            WeighingDesign x = making.make();
            asked.on(x);
            dueSame(call + " and " + back + " undo()", lookBack(x, back), lookBack(making.make(), back));
        }
    }

    /** The text is seen by entering it into what is there. */
    private static String lookBack(WeighingDesign x, int back) {
        StringBuilder seen = new StringBuilder();
        seen.append("states ").append(x.count(11)).append('\n');
        for (int n = 0; n < back; n++) {
            seen.append("undo ").append(x.undo()).append('\n');
        }
        seen.append(look(x));
        seen.append("enter ").append(x.enter()).append('\n');
        return seen.append(look(x)).toString();
    }

    private static WeighingDesign none() {
        return new WeighingDesign();
    }

    /** Four rows, five states, and a text without a fault. */
    private static WeighingDesign few() {
        WeighingDesign x = star(10, 20);
        typeAll(x, "1:0=3;02:3=-4;");
        return x;
    }

    /** Two rows without readings and one with readings; three states. */
    private static WeighingDesign loose() {
        WeighingDesign x = new WeighingDesign();
        x.addRow(1, 2);
        x.addRow(2, 1);
        x.undo();
        x.addRow(2, 1);
        x.addRow(4, 8);
        x.take(2, 5);
        typeAll(x, "0:1=3;?");
        x.undo();
        x.take(2, 6);
        return x;
    }

    /** Rows, readings, states and characters: as many as there may be; the text has a fault. */
    private static WeighingDesign full() {
        WeighingDesign x = fullDesign();
        for (int n = 0; n < 80; n++) {
            x.type("0:1=5;".charAt(n % 6));
        }
        return x;
    }

    /** Twelve rows, eleven readings and no state: all the history is undone. */
    private static WeighingDesign undone() {
        WeighingDesign x = twelveRows();
        for (int row = 0; row < 11; row++) {
            x.take(row, row);
        }
        for (int n = 0; n < 5; n++) {
            x.set(0, n);
        }
        for (int n = 0; n < 5; n++) {
            x.undo();
        }
        return x;
    }

    /** A text of eighty characters without a fault, in a design without rows. */
    private static WeighingDesign longText() {
        WeighingDesign x = new WeighingDesign();
        for (int n = 0; n < 80; n++) {
            x.type("0:1=5;4:3=0;12:04=7;".charAt(n % 20));
        }
        return x;
    }

    private static void errorsOfSettings() {
        about = "errors of set";
        dueError("set(0, 100001)", RangeTests::few, INVALID, x -> x.set(0, 100001));
        dueError("set(0, -100001)", RangeTests::few, INVALID, x -> x.set(0, -100001));
        dueError("set(1, 2)", RangeTests::few, INVALID, x -> x.set(1, 2));
        dueError("set(1, -1)", RangeTests::loose, INVALID, x -> x.set(1, -1));
        dueError("set(2, 100001)", RangeTests::few, INVALID, x -> x.set(2, 100001));
        dueError("set(2, -1)", RangeTests::full, INVALID, x -> x.set(2, -1));
        dueError("set(3, 0)", RangeTests::few, INVALID, x -> x.set(3, 0));
        dueError("set(-1, 0)", RangeTests::none, INVALID, x -> x.set(-1, 0));
    }

    private static void errorsOfRows() {
        about = "errors of addRow";
        dueError("addRow(0, 2)", RangeTests::few, INVALID, x -> x.addRow(0, 2));
        dueError("addRow(2, 0)", RangeTests::none, INVALID, x -> x.addRow(2, 0));
        dueError("addRow(32, 1)", RangeTests::few, INVALID, x -> x.addRow(32, 1));
        dueError("addRow(1, 32)", RangeTests::loose, INVALID, x -> x.addRow(1, 32));
        dueError("addRow(3, 6)", RangeTests::few, INVALID, x -> x.addRow(3, 6));
        dueError("addRow(1, 2) that there is", RangeTests::few, IMPOSSIBLE, x -> x.addRow(1, 2));
        dueError("addRow(8, 1) as the 13th", RangeTests::full, FULL, x -> x.addRow(8, 1));
        dueError("addRow(8, 1) without a state", RangeTests::undone, FULL, x -> x.addRow(8, 1));
        dueError("addRow(1, 2) of twelve", RangeTests::full, IMPOSSIBLE, x -> x.addRow(1, 2));
        dueError("addRow(4, 16) of twelve", RangeTests::undone, IMPOSSIBLE, x -> x.addRow(4, 16));
        dueError("addRow(0, 1) of twelve", RangeTests::full, INVALID, x -> x.addRow(0, 1));
        dueError("addRow(1, 32) of twelve", RangeTests::full, INVALID, x -> x.addRow(1, 32));
        dueError("addRow(24, 16) of twelve", RangeTests::full, INVALID, x -> x.addRow(24, 16));
        about = "errors of dropRow";
        dueError("dropRow(0) of none", RangeTests::none, INVALID, x -> x.dropRow(0));
        dueError("dropRow(-1)", RangeTests::few, INVALID, x -> x.dropRow(-1));
        dueError("dropRow(4)", RangeTests::few, INVALID, x -> x.dropRow(4));
        dueError("dropRow(12)", RangeTests::full, INVALID, x -> x.dropRow(12));
    }

    private static void errorsOfReadings() {
        about = "errors of take";
        dueError("take(0, 0) without rows", RangeTests::none, INVALID, x -> x.take(0, 0));
        dueError("take(-1, 0)", RangeTests::few, INVALID, x -> x.take(-1, 0));
        dueError("take(4, 0)", RangeTests::few, INVALID, x -> x.take(4, 0));
        dueError("take(0, 100001)", RangeTests::few, INVALID, x -> x.take(0, 100001));
        dueError("take(0, -100001)", RangeTests::loose, INVALID, x -> x.take(0, -100001));
        dueError("take(0, 0) as the 7th", RangeTests::full, FULL, x -> x.take(0, 0));
        dueError("take(11, 0) as the 7th", RangeTests::full, FULL, x -> x.take(11, 0));
        dueError("take(0, 100001) as the 7th", RangeTests::full, INVALID, x -> x.take(0, 100001));
        dueError("take(0, -100001) as the 7th", RangeTests::full, INVALID, x -> x.take(0, -100001));
        dueError("take(12, 0) of full rows", RangeTests::full, INVALID, x -> x.take(12, 0));
        about = "errors of dropReading";
        dueError("dropReading(0, 0) without rows", RangeTests::none, INVALID, x -> x.dropReading(0, 0));
        dueError("dropReading(0, 0) of none", RangeTests::loose, INVALID, x -> x.dropReading(0, 0));
        dueError("dropReading(0, 2)", RangeTests::few, INVALID, x -> x.dropReading(0, 2));
        dueError("dropReading(0, -1)", RangeTests::few, INVALID, x -> x.dropReading(0, -1));
        dueError("dropReading(4, 0)", RangeTests::few, INVALID, x -> x.dropReading(4, 0));
        dueError("dropReading(0, 6)", RangeTests::full, INVALID, x -> x.dropReading(0, 6));
        dueError("dropReading(-1, 6)", RangeTests::full, INVALID, x -> x.dropReading(-1, 6));
    }

    private static void errorsOfAskedRows() {
        about = "errors of row";
        dueError("row(0, 3) of none", RangeTests::none, INVALID, x -> x.row(0, 3));
        dueError("row(0, 3) without a swapped one", RangeTests::few, NOTHING, x -> x.row(0, 3));
        dueError("row(0, 3) without readings", RangeTests::loose, NOTHING, x -> x.row(0, 3));
        dueError("row(4, 3)", RangeTests::few, INVALID, x -> x.row(4, 3));
        dueError("row(0, 5)", RangeTests::few, INVALID, x -> x.row(0, 5));
        dueError("row(0, -1)", RangeTests::full, INVALID, x -> x.row(0, -1));
        about = "errors of reading";
        dueError("reading(0, 2)", RangeTests::few, INVALID, x -> x.reading(0, 2));
        dueError("reading(0, 0) of none", RangeTests::loose, INVALID, x -> x.reading(0, 0));
        dueError("reading(12, 0)", RangeTests::full, INVALID, x -> x.reading(12, 0));
        about = "errors of find";
        dueError("find(2, 4)", RangeTests::few, NOTHING, x -> x.find(2, 4));
        dueError("find(3, 1), a mass in both", RangeTests::few, NOTHING, x -> x.find(3, 1));
        dueError("find(1, 2) of none", RangeTests::none, NOTHING, x -> x.find(1, 2));
        dueError("find(0, 2)", RangeTests::few, INVALID, x -> x.find(0, 2));
        dueError("find(2, 32)", RangeTests::full, INVALID, x -> x.find(2, 32));
        dueError("find(32, 32)", RangeTests::full, INVALID, x -> x.find(32, 32));
        about = "errors of count";
        dueError("count(-1)", RangeTests::few, INVALID, x -> x.count(-1));
        dueError("count(14)", RangeTests::full, INVALID, x -> x.count(14));
    }

    private static void errorsOfUndo() {
        about = "errors of undo";
        dueError("undo() of none", RangeTests::none, IMPOSSIBLE, x -> x.undo());
        dueError("undo() with all undone", RangeTests::undone, IMPOSSIBLE, x -> x.undo());
        dueError("undo() with a text alone", RangeTests::longText, IMPOSSIBLE, x -> x.undo());
    }

    private static void errorsOfValues() {
        about = "errors of value";
        dueError("value(0, 0) of none", RangeTests::none, IMPOSSIBLE, x -> x.value(0, 0));
        dueError("value(1, 1) if it is not whole", RangeTests::loose, IMPOSSIBLE, x -> x.value(1, 1));
        dueError("value(5, 0)", RangeTests::few, INVALID, x -> x.value(5, 0));
        dueError("value(1, 2)", RangeTests::few, INVALID, x -> x.value(1, 2));
        dueError("value(-1, 0) if it is not whole", RangeTests::loose, INVALID, x -> x.value(-1, 0));
        dueError("value(0, 2) if it is not whole", RangeTests::none, INVALID, x -> x.value(0, 2));
        about = "errors of pan";
        dueError("pan(0) of none", RangeTests::none, IMPOSSIBLE, x -> x.pan(0));
        dueError("pan(1) if it is not whole", RangeTests::loose, IMPOSSIBLE, x -> x.pan(1));
        dueError("pan(2)", RangeTests::few, INVALID, x -> x.pan(2));
        dueError("pan(-1) if it is not whole", RangeTests::loose, INVALID, x -> x.pan(-1));
        about = "errors of balance";
        dueError("balance(0, 0) of none", RangeTests::none, IMPOSSIBLE, x -> x.balance(0, 0));
        dueError("balance(5, 0)", RangeTests::few, INVALID, x -> x.balance(5, 0));
        dueError("balance(0, 2)", RangeTests::full, INVALID, x -> x.balance(0, 2));
        dueError("balance(-1, 0) if it is not whole", RangeTests::loose, INVALID, x -> x.balance(-1, 0));
        dueError("balance(0, -1) if it is not whole", RangeTests::loose, INVALID, x -> x.balance(0, -1));
        about = "errors of worst";
        dueError("worst(0) of none", RangeTests::none, IMPOSSIBLE, x -> x.worst(0));
        dueError("worst(1) if it is not whole", RangeTests::loose, IMPOSSIBLE, x -> x.worst(1));
        dueError("worst(2)", RangeTests::few, INVALID, x -> x.worst(2));
        dueError("worst(-1) if it is not whole", RangeTests::loose, INVALID, x -> x.worst(-1));
    }

    private static void errorsOfResiduals() {
        about = "errors of residual";
        dueError("residual(2, 0, 0) if it is not whole", RangeTests::loose, IMPOSSIBLE, x -> x.residual(2, 0, 0));
        dueError("residual(0, 0, 0) without readings", RangeTests::loose, INVALID, x -> x.residual(0, 0, 0));
        dueError("residual(3, 0, 0) if it is not whole", RangeTests::loose, INVALID, x -> x.residual(3, 0, 0));
        dueError("residual(2, 0, 2) if it is not whole", RangeTests::loose, INVALID, x -> x.residual(2, 0, 2));
        dueError("residual(0, 2, 0)", RangeTests::few, INVALID, x -> x.residual(0, 2, 0));
        dueError("residual(0, 0, -1)", RangeTests::few, INVALID, x -> x.residual(0, 0, -1));
        dueError("residual(12, 0, 0)", RangeTests::full, INVALID, x -> x.residual(12, 0, 0));
    }

    private static void errorsOfWithout() {
        about = "errors of without";
        dueError("without(1, 0, 1, 0)", RangeTests::few, IMPOSSIBLE, x -> x.without(1, 0, 1, 0));
        dueError("without(2, 0, 1, 1) if it is not whole", RangeTests::loose, IMPOSSIBLE, x -> x.without(2, 0, 1, 1));
        dueError("without(0, 0, 0, 0)", RangeTests::few, INVALID, x -> x.without(0, 0, 0, 0));
        dueError("without(0, 0, 5, 0)", RangeTests::full, INVALID, x -> x.without(0, 0, 5, 0));
        dueError("without(0, 0, 1, 2)", RangeTests::full, INVALID, x -> x.without(0, 0, 1, 2));
        dueError("without(1, 0, 0, 0) of a needed one", RangeTests::few, INVALID, x -> x.without(1, 0, 0, 0));
        dueError("without(1, 0, 5, 0) of a needed one", RangeTests::few, INVALID, x -> x.without(1, 0, 5, 0));
        dueError("without(1, 0, 1, 2) of a needed one", RangeTests::few, INVALID, x -> x.without(1, 0, 1, 2));
        dueError("without(1, 1, 1, 0)", RangeTests::few, INVALID, x -> x.without(1, 1, 1, 0));
        dueError("without(0, 0, 1, 0) without readings", RangeTests::loose, INVALID, x -> x.without(0, 0, 1, 0));
        dueError("without(0, 0, 1, 0) of none", RangeTests::none, INVALID, x -> x.without(0, 0, 1, 0));
    }

    private static void errorsOfMeans() {
        about = "errors of mean";
        dueError("mean(0, 0) without readings", RangeTests::loose, NOTHING, x -> x.mean(0, 0));
        dueError("mean(0, 1) without readings", RangeTests::loose, NOTHING, x -> x.mean(0, 1));
        dueError("mean(0, 2) without readings", RangeTests::loose, INVALID, x -> x.mean(0, 2));
        dueError("mean(3, 0)", RangeTests::loose, INVALID, x -> x.mean(3, 0));
        dueError("mean(0, -1)", RangeTests::few, INVALID, x -> x.mean(0, -1));
        about = "errors of panBy";
        dueError("panBy(0, 0) without readings", RangeTests::loose, NOTHING, x -> x.panBy(0, 0));
        dueError("panBy(0, 1) without a swapped one", RangeTests::few, NOTHING, x -> x.panBy(0, 1));
        dueError("panBy(0, 2) without a swapped one", RangeTests::few, INVALID, x -> x.panBy(0, 2));
        dueError("panBy(4, 0)", RangeTests::few, INVALID, x -> x.panBy(4, 0));
        dueError("panBy(0, -1)", RangeTests::full, INVALID, x -> x.panBy(0, -1));
        about = "errors of mostSuspect";
        dueError("mostSuspect() of none", RangeTests::none, NOTHING, x -> x.mostSuspect());
        dueError("mostSuspect() without swapped ones", RangeTests::few, NOTHING, x -> x.mostSuspect());
        dueError("mostSuspect() without readings", RangeTests::loose, NOTHING, x -> x.mostSuspect());
    }

    private static void errorsOfChains() {
        about = "errors of chain";
        dueError("chain(1) of none", RangeTests::none, NOTHING, x -> x.chain(1));
        dueError("chain(4) without a link", RangeTests::loose, NOTHING, x -> x.chain(4));
        dueError("chain(5)", RangeTests::few, INVALID, x -> x.chain(5));
        dueError("chain(-1)", RangeTests::none, INVALID, x -> x.chain(-1));
    }

    private static void errorsOfTexts() {
        about = "errors of type";
        dueError("type(31)", RangeTests::few, INVALID, x -> x.type(31));
        dueError("type(127)", RangeTests::none, INVALID, x -> x.type(127));
        dueError("type(48) as the 81st", RangeTests::longText, FULL, x -> x.type(48));
        dueError("type(59) as the 81st", RangeTests::full, FULL, x -> x.type(59));
        dueError("type(31) as the 81st", RangeTests::longText, INVALID, x -> x.type(31));
        dueError("type(127) as the 81st", RangeTests::full, INVALID, x -> x.type(127));
        about = "errors of fault";
        dueError("fault(0) of no text", RangeTests::none, NOTHING, x -> x.fault(0));
        dueError("fault(1) of a text without one", RangeTests::longText, NOTHING, x -> x.fault(1));
        dueError("fault(2) of a text without one", RangeTests::few, INVALID, x -> x.fault(2));
        dueError("fault(-1) of a text with one", RangeTests::full, INVALID, x -> x.fault(-1));
        about = "errors of enter";
        dueError("enter() without room", RangeTests::full, IMPOSSIBLE, x -> x.enter());
        dueError("enter() with a fault behind a row", RangeTests::loose, IMPOSSIBLE, x -> x.enter());
    }

    private static void askingChangesNothing() {
        about = "calls that ask";
        Making[] makings = {RangeTests::few, RangeTests::loose, RangeTests::full, RangeTests::longText};
        for (Making making : makings) {
            dueUnchanged("row", making, x -> x.row(0, 0) + x.row(0, 3) + x.row(0, 4));
            dueUnchanged("reading and find", making, x -> x.reading(0, 0) + x.find(1, 2) + x.find(2, 4));
            dueUnchanged("count", making, x -> x.count(5) + x.count(8) + x.count(10) + x.count(13));
            dueUnchanged("value and pan", making, x -> x.value(0, 0) + x.value(4, 1) + x.pan(0));
            dueUnchanged("residual and balance", making, x -> x.residual(0, 0, 0) + x.balance(1, 0));
            dueUnchanged("mean and panBy", making, x -> x.mean(0, 0) + x.panBy(0, 0));
            dueUnchanged("worst and without", making, x -> x.worst(0) + x.without(0, 0, 1, 0));
            dueUnchanged("chain and mostSuspect", making, x -> x.chain(4) + x.mostSuspect());
            dueUnchanged("fault", making, x -> x.fault(0) + x.fault(1));
        }
    }

    /** The 512th call is still answered, whatever the ones ahead of it were. */
    private static void aWholeLifeOfCalls() {
        about = "512 calls";
        WeighingDesign x = new WeighingDesign();
        for (int n = 0; n < 511; n++) {
            due("set(0, " + n + ")", x.set(0, n), Math.max(n - 1, 0));
        }
        due("count(11) as the 512th", x.count(11), 5);
        WeighingDesign y = new WeighingDesign();
        y.addRow(1, 2);
        for (int n = 1; n < 511; n += 2) {
            due("take", y.take(0, n), 0);
            due("dropReading", y.dropReading(0, 0), 0);
        }
        due("count(4) as the 512th", y.count(4), 0);
    }
}
