// One method for each promise of the document: ordinary inputs, the edges that it names, and wrong
// inputs. The answers that are due are worked out by hand.
public final class PromiseTests extends Checks {
    public static void main(String[] args) {
        exampleOfReadme();
        constants();
        newObject();
        objectsInTurn();
        set();
        addRow();
        dropRow();
        take();
        dropReading();
        row();
        neededRow();
        reading();
        find();
        count();
        undo();
        historyKeepsFiveStates();
        errorsKeepNoState();
        value();
        pan();
        residual();
        balance();
        mean();
        worst();
        without();
        chain();
        panBy();
        suspectPan();
        mostSuspect();
        type();
        clearText();
        faultOfForm();
        faultOfSense();
        faultOfRoom();
        enter();
        largestNumbers();
        finish();
    }

    /** The calls that README.md shows, with the answers that it tells. */
    private static void exampleOfReadme() {
        about = "README.md";
        WeighingDesign design = new WeighingDesign();
        int row = design.addRow(1, 2);
        due("take(row, 10)", design.take(row, 10), 0);
        due("take(row, 13)", design.take(row, 13), 1);
        for (char c : "0:2=20;0:3=30;0:4=40;".toCharArray()) {
            design.type(c);
        }
        due("fault(0)", design.fault(0), NOTHING);
        due("enter()", design.enter(), 3);
        due("count(5)", design.count(5), 1);
        dueValue(design, 1, -23, 2);
        due("residual(row, 0, 0)", design.residual(row, 0, 0), -3);
        due("worst(1)", design.worst(1), 0);
        due("row(row, 4)", design.row(row, 4), 1);
        due("chain(4)", design.chain(4), 1);
        due("undo()", design.undo(), 3);
        due("value(1, 0)", design.value(1, 0), IMPOSSIBLE);
    }

    private static void constants() {
        about = "constants";
        due("INVALID_ARGUMENT", WeighingDesign.INVALID_ARGUMENT, INVALID);
        due("NOT_POSSIBLE", WeighingDesign.NOT_POSSIBLE, IMPOSSIBLE);
        due("LIMIT_REACHED", WeighingDesign.LIMIT_REACHED, FULL);
        due("NOT_FOUND", WeighingDesign.NOT_FOUND, NOTHING);
    }

    private static void newObject() {
        about = "promise 1";
        WeighingDesign x = new WeighingDesign();
        long[] counts = {0, 0, 100, 0, 0, 0, 4, -4, 0, 0, 1, 0, 0, 0};
        for (int what = 0; what < counts.length; what++) {
            due("count(" + what + ")", x.count(what), counts[what]);
        }
        due("value(0, 0)", x.value(0, 0), IMPOSSIBLE);
        due("fault(0)", x.fault(0), NOTHING);
        due("undo()", x.undo(), IMPOSSIBLE);
        weigh(x, 1, 2, 5);
        due("count(3) of another one", new WeighingDesign().count(3), 0);
    }

    /** Whatever is done with one object, nothing that another one has becomes different by it. */
    private static void objectsInTurn() {
        about = "promise 1, objects in turn";
        WeighingDesign x = star(10, 13);
        typeAll(x, "0:1=5;02:3=-4;");
        x.set(0, 8);
        String before = look(x);
        WeighingDesign y = fullDesign();
        typeAll(y, "2:3=77777;4:");
        y.set(0, -9);
        y.set(1, 1);
        y.set(2, 3);
        String other = look(y);
        dueSame("calls on another object", look(x), before);
        due("enter()", x.enter(), 2);
        due("undo()", x.undo(), 4);
        x.clearText();
        typeAll(x, "0:1=6;");
        dueSame("calls on another object", look(y), other);
        due("enter()", x.enter(), 1);
        due("reading(0, 2)", x.reading(0, 2), 6);
        due("undo() of the other one", y.undo(), 4);
        due("count(2) of the other one", y.count(2), 100);
        due("count(11)", x.count(11), 5);
    }

    private static void set() {
        about = "promise 2";
        WeighingDesign x = new WeighingDesign();
        due("set(0, 100000)", x.set(0, 100000), 0);
        due("set(0, -100000)", x.set(0, -100000), 100000);
        due("set(0, 100001)", x.set(0, 100001), INVALID);
        due("set(0, -100001)", x.set(0, -100001), INVALID);
        due("count(0)", x.count(0), -100000);
        due("set(1, 1)", x.set(1, 1), 0);
        due("set(1, 2)", x.set(1, 2), INVALID);
        due("set(1, -1)", x.set(1, -1), INVALID);
        due("set(1, 1)", x.set(1, 1), 1);
        due("count(1)", x.count(1), 1);
        due("set(2, 0)", x.set(2, 0), 100);
        due("set(2, 100000)", x.set(2, 100000), 0);
        due("set(2, -1)", x.set(2, -1), INVALID);
        due("set(2, 100001)", x.set(2, 100001), INVALID);
        due("count(2)", x.count(2), 100000);
        due("set(3, 0)", x.set(3, 0), INVALID);
        due("set(-1, 0)", x.set(-1, 0), INVALID);
        due("set(2, MIN)", x.set(2, Integer.MIN_VALUE), INVALID);
    }

    private static void addRow() {
        about = "promise 3";
        WeighingDesign x = new WeighingDesign();
        due("addRow(1, 2)", x.addRow(1, 2), 0);
        due("addRow(1, 30)", x.addRow(1, 30), 1);
        due("addRow(30, 1)", x.addRow(30, 1), 2);
        due("addRow(1, 2) again", x.addRow(1, 2), IMPOSSIBLE);
        due("addRow(2, 1)", x.addRow(2, 1), 3);
        due("addRow(0, 1)", x.addRow(0, 1), INVALID);
        due("addRow(1, 0)", x.addRow(1, 0), INVALID);
        due("addRow(32, 1)", x.addRow(32, 1), INVALID);
        due("addRow(1, 32)", x.addRow(1, 32), INVALID);
        due("addRow(-1, 1)", x.addRow(-1, 1), INVALID);
        due("addRow(7, 12)", x.addRow(7, 12), INVALID);
        due("row(2, 0)", x.row(2, 0), 30);
        due("row(2, 1)", x.row(2, 1), 1);
        due("row(2, 2)", x.row(2, 2), 0);
        for (int right = 3; right <= 10; right++) {
            due("addRow(16, " + right + ")", x.addRow(16, right), right + 1);
        }
        due("addRow(16, 11) as the 13th", x.addRow(16, 11), FULL);
        due("addRow(16, 10) as the 13th", x.addRow(16, 10), IMPOSSIBLE);
        due("addRow(16, 16) as the 13th", x.addRow(16, 16), INVALID);
        due("count(3)", x.count(3), 12);
    }

    private static void dropRow() {
        about = "promise 4";
        WeighingDesign x = new WeighingDesign();
        weigh(x, 1, 2, 7, 8);
        weigh(x, 2, 4, 9);
        weigh(x, 4, 8, 3, 4, 5);
        due("dropRow(3)", x.dropRow(3), INVALID);
        due("dropRow(-1)", x.dropRow(-1), INVALID);
        due("dropRow(1)", x.dropRow(1), 2);
        due("row(1, 0)", x.row(1, 0), 4);
        due("row(1, 1)", x.row(1, 1), 8);
        due("row(1, 2)", x.row(1, 2), 3);
        due("reading(1, 2)", x.reading(1, 2), 5);
        due("reading(0, 1)", x.reading(0, 1), 8);
        due("find(2, 4)", x.find(2, 4), NOTHING);
        due("find(4, 8)", x.find(4, 8), 1);
        due("count(4)", x.count(4), 5);
        weigh(x, 8, 4, 6);
        due("row(2, 3)", x.row(2, 3), 1);
        due("dropRow(0)", x.dropRow(0), 2);
        due("row(0, 3) after a row ahead is gone", x.row(0, 3), 1);
        due("row(1, 3) after a row ahead is gone", x.row(1, 3), 0);
        due("undo()", x.undo(), 4);
        due("dropRow(2)", x.dropRow(2), 2);
        due("dropRow(1)", x.dropRow(1), 1);
        due("dropRow(0)", x.dropRow(0), 0);
        due("dropRow(0) without rows", x.dropRow(0), INVALID);
        due("addRow(1, 2)", x.addRow(1, 2), 0);
        due("row(0, 2) of a row made anew", x.row(0, 2), 0);
    }

    private static void take() {
        about = "promise 5";
        WeighingDesign x = new WeighingDesign();
        due("take(0, 1) without rows", x.take(0, 1), INVALID);
        x.addRow(1, 2);
        x.addRow(2, 1);
        due("take(0, 100000)", x.take(0, 100000), 0);
        due("take(0, -100000)", x.take(0, -100000), 1);
        due("take(0, 100001)", x.take(0, 100001), INVALID);
        due("take(0, -100001)", x.take(0, -100001), INVALID);
        due("take(2, 0)", x.take(2, 0), INVALID);
        due("take(-1, 0)", x.take(-1, 0), INVALID);
        for (int n = 2; n < 6; n++) {
            due("take(0, " + n + ")", x.take(0, n), n);
        }
        due("take(0, 6) as the 7th", x.take(0, 6), FULL);
        due("take(0, 100001) as the 7th", x.take(0, 100001), INVALID);
        due("take(1, 6)", x.take(1, 6), 0);
        due("row(0, 2)", x.row(0, 2), 6);
        due("reading(0, 1)", x.reading(0, 1), -100000);
        due("reading(0, 5)", x.reading(0, 5), 5);
    }

    private static void dropReading() {
        about = "promise 6";
        WeighingDesign x = new WeighingDesign();
        weigh(x, 1, 2, 10, 20, 30);
        weigh(x, 1, 4, 40);
        due("dropReading(0, 3)", x.dropReading(0, 3), INVALID);
        due("dropReading(0, -1)", x.dropReading(0, -1), INVALID);
        due("dropReading(2, 0)", x.dropReading(2, 0), INVALID);
        due("dropReading(0, 1)", x.dropReading(0, 1), 2);
        due("reading(0, 0)", x.reading(0, 0), 10);
        due("reading(0, 1)", x.reading(0, 1), 30);
        due("reading(0, 2)", x.reading(0, 2), INVALID);
        due("reading(1, 0)", x.reading(1, 0), 40);
        due("dropReading(1, 0)", x.dropReading(1, 0), 0);
        due("dropReading(1, 0) of none", x.dropReading(1, 0), INVALID);
        due("count(3)", x.count(3), 2);
    }

    private static void row() {
        about = "promise 7";
        WeighingDesign x = new WeighingDesign();
        due("row(0, 0) without rows", x.row(0, 0), INVALID);
        weigh(x, 3, 4, 5, 6);
        weigh(x, 8, 16);
        weigh(x, 4, 3);
        due("row(0, 0)", x.row(0, 0), 3);
        due("row(0, 1)", x.row(0, 1), 4);
        due("row(0, 2)", x.row(0, 2), 2);
        due("row(0, 3) if the other one has no readings", x.row(0, 3), NOTHING);
        due("row(2, 3) if it has no readings", x.row(2, 3), NOTHING);
        x.take(2, -5);
        due("row(0, 3)", x.row(0, 3), 2);
        due("row(2, 3)", x.row(2, 3), 0);
        due("row(1, 3)", x.row(1, 3), NOTHING);
        due("row(0, 5)", x.row(0, 5), INVALID);
        due("row(0, -1)", x.row(0, -1), INVALID);
        due("row(3, 0)", x.row(3, 0), INVALID);
        due("row(-1, 4)", x.row(-1, 4), INVALID);
    }

    private static void neededRow() {
        about = "promise 7, needed";
        due("count(13) of the star", star().count(13), 4);
        WeighingDesign x = loop();
        x.addRow(16, 1);
        long[] needed = {0, 0, 0, 1, 1, 0};
        for (int row = 0; row < needed.length; row++) {
            due("row(" + row + ", 4)", x.row(row, 4), needed[row]);
        }
        due("count(13)", x.count(13), 2);
        x.take(5, -6);
        due("row(4, 4) beside a swapped row", x.row(4, 4), 0);
        due("count(13)", x.count(13), 1);
        x.set(1, 1);
        due("row(4, 4) with the pan", x.row(4, 4), 0);
        due("row(3, 4) with the pan", x.row(3, 4), 1);
        x.dropRow(3);
        due("count(5)", x.count(5), 0);
        due("row(0, 4) if it is not whole", x.row(0, 4), 0);
        due("count(13) if it is not whole", x.count(13), 0);
    }

    private static void reading() {
        about = "promise 8";
        WeighingDesign x = new WeighingDesign();
        due("reading(0, 0) without rows", x.reading(0, 0), INVALID);
        weigh(x, 1, 2, 7, -8);
        weigh(x, 1, 4);
        due("reading(0, 0)", x.reading(0, 0), 7);
        due("reading(0, 1)", x.reading(0, 1), -8);
        due("reading(0, 2)", x.reading(0, 2), INVALID);
        due("reading(0, -1)", x.reading(0, -1), INVALID);
        due("reading(1, 0)", x.reading(1, 0), INVALID);
        due("reading(-1, 0)", x.reading(-1, 0), INVALID);
        due("reading(MAX, MAX)", x.reading(Integer.MAX_VALUE, Integer.MAX_VALUE), INVALID);
    }

    private static void find() {
        about = "promise 9";
        WeighingDesign x = new WeighingDesign();
        x.addRow(1, 2);
        x.addRow(2, 1);
        x.addRow(24, 7);
        due("find(1, 2)", x.find(1, 2), 0);
        due("find(2, 1)", x.find(2, 1), 1);
        due("find(24, 7)", x.find(24, 7), 2);
        due("find(7, 24)", x.find(7, 24), NOTHING);
        due("find(1, 1)", x.find(1, 1), NOTHING);
        due("find(31, 31)", x.find(31, 31), NOTHING);
        due("find(0, 2)", x.find(0, 2), INVALID);
        due("find(2, 32)", x.find(2, 32), INVALID);
        due("find(-1, 2)", x.find(-1, 2), INVALID);
        x.dropRow(0);
        due("find(2, 1) after a row ahead is gone", x.find(2, 1), 0);
    }

    private static void count() {
        about = "promise 10";
        WeighingDesign x = loop();
        weigh(x, 2, 1, 300, 301);
        x.set(0, -9);
        x.set(1, 1);
        x.set(2, 250);
        typeAll(x, "0:1");
        long[] counts = {-9, 1, 250, 6, 7, 1, 5, 2, 1, 1, 5, 5, 3, 2};
        for (int what = 0; what < counts.length; what++) {
            due("count(" + what + ")", x.count(what), counts[what]);
        }
        due("count(14)", x.count(14), INVALID);
        due("count(-1)", x.count(-1), INVALID);
        WeighingDesign y = star();
        y.set(1, 1);
        due("count(5) without a row that tells the pan", y.count(5), 0);
        due("count(7) with the pan", y.count(7), -1);
        WeighingDesign z = new WeighingDesign();
        weigh(z, 1, 2, 0);
        weigh(z, 2, 1, 0);
        weigh(z, 4, 8, 0);
        weigh(z, 8, 4, 0);
        weigh(z, 1, 16);
        weigh(z, 16, 1, 0);
        due("count(9)", z.count(9), 2);
        due("count(10)", z.count(10), 3);
        z.dropRow(1);
        z.dropRow(0);
        due("count(9)", z.count(9), 1);
        due("count(10) without mass 1", z.count(10), 2);
    }

    private static void undo() {
        about = "promise 11";
        WeighingDesign x = new WeighingDesign();
        due("undo() of nothing", x.undo(), IMPOSSIBLE);
        weigh(x, 1, 2, 7, 8);
        x.dropReading(0, 0);
        x.dropRow(0);
        due("undo() of dropRow", x.undo(), 4);
        due("row(0, 2)", x.row(0, 2), 1);
        due("reading(0, 0)", x.reading(0, 0), 8);
        due("undo() of dropReading", x.undo(), 3);
        due("reading(0, 0)", x.reading(0, 0), 7);
        due("undo() of take", x.undo(), 2);
        due("row(0, 2)", x.row(0, 2), 1);
        x.set(0, 5);
        due("undo() of set", x.undo(), 2);
        due("count(0)", x.count(0), 0);
        x.set(1, 1);
        x.set(2, 7);
        x.undo();
        due("count(2)", x.count(2), 100);
        x.undo();
        due("count(1)", x.count(1), 0);
        x.undo();
        due("undo() of addRow", x.undo(), 0);
        due("count(3)", x.count(3), 0);
        due("undo() of nothing more", x.undo(), IMPOSSIBLE);
        typeAll(x, "0:1=5;0:2=6;");
        x.enter();
        typeAll(x, "!");
        due("undo() of enter", x.undo(), 0);
        due("count(3)", x.count(3), 0);
        due("count(12) after undo", x.count(12), 13);
    }

    private static void historyKeepsFiveStates() {
        about = "promise 11, five states";
        WeighingDesign x = new WeighingDesign();
        for (int n = 1; n <= 8; n++) {
            x.set(0, n);
            due("count(11)", x.count(11), Math.min(n, 5));
        }
        for (int n = 7; n >= 3; n--) {
            due("undo()", x.undo(), n - 3);
            due("count(0)", x.count(0), n);
        }
        due("undo() at the end", x.undo(), IMPOSSIBLE);
        due("count(0)", x.count(0), 3);
        x.set(0, 3);
        due("count(11) after a change to the same", x.count(11), 1);
        due("enter() of the empty text", x.enter(), 0);
        due("count(11) after it", x.count(11), 2);
    }

    private static void errorsKeepNoState() {
        about = "promise 11, errors";
        WeighingDesign x = new WeighingDesign();
        x.addRow(1, 2);
        x.addRow(1, 2);
        x.addRow(0, 2);
        x.set(1, 5);
        x.dropRow(1);
        x.take(1, 0);
        x.take(0, 100001);
        x.dropReading(0, 0);
        typeAll(x, "?");
        x.enter();
        x.clearText();
        x.fault(0);
        x.undo();
        x.undo();
        due("count(11)", x.count(11), 0);
        due("count(3)", x.count(3), 0);
    }

    private static void value() {
        about = "promise 12";
        WeighingDesign x = star();
        dueValue(x, 0, 0, 1);
        dueValue(x, 1, -10, 1);
        dueValue(x, 4, -40, 1);
        x.take(0, 13);
        dueValue(x, 1, -23, 2);
        x.take(0, 14);
        x.take(0, 15);
        dueValue(x, 1, -13, 1);
        x.set(0, 40);
        dueValue(x, 0, 40, 1);
        dueValue(x, 1, 27, 1);
        dueValue(x, 3, 10, 1);
        dueValue(x, 4, 0, 1);
        due("value(5, 0)", x.value(5, 0), INVALID);
        due("value(-1, 0)", x.value(-1, 0), INVALID);
        due("value(1, 2)", x.value(1, 2), INVALID);
        due("value(1, -1)", x.value(1, -1), INVALID);
        WeighingDesign y = loop();
        dueValue(y, 1, 4, 3);
        dueValue(y, 2, -4, 3);
        y.dropReading(4, 0);
        due("value(0, 1) if it is not whole", y.value(0, 1), IMPOSSIBLE);
        due("value(1, 0) if it is not whole", y.value(1, 0), IMPOSSIBLE);
        due("value(5, 0) if it is not whole", y.value(5, 0), INVALID);
    }

    private static void pan() {
        about = "promise 13";
        WeighingDesign x = star();
        duePan(x, 0, 1);
        x.set(1, 1);
        due("pan(0) if it is not whole", x.pan(0), IMPOSSIBLE);
        weigh(x, 2, 1, -4);
        duePan(x, 3, 1);
        dueValue(x, 1, -7, 1);
        dueValue(x, 2, -17, 1);
        x.take(4, -3);
        duePan(x, 13, 4);
        dueValue(x, 1, -27, 4);
        due("pan(2)", x.pan(2), INVALID);
        due("pan(-1)", x.pan(-1), INVALID);
        x.set(1, 0);
        duePan(x, 0, 1);
        x.dropRow(1);
        due("pan(0) with the pan 0, if it is not whole", x.pan(0), IMPOSSIBLE);
        due("pan(2) if it is not whole", x.pan(2), INVALID);
    }

    private static void residual() {
        about = "promise 14";
        WeighingDesign x = star();
        x.take(0, 13);
        dueResidual(x, 0, 0, -3, 2);
        dueResidual(x, 0, 1, 3, 2);
        dueResidual(x, 1, 0, 0, 1);
        x.set(0, 1000);
        dueResidual(x, 0, 0, -3, 2);
        WeighingDesign y = loop();
        dueResidual(y, 0, 0, 4, 3);
        dueResidual(y, 1, 0, 4, 3);
        dueResidual(y, 2, 0, -4, 3);
        due("residual(0, 1, 0)", y.residual(0, 1, 0), INVALID);
        due("residual(5, 0, 0)", y.residual(5, 0, 0), INVALID);
        due("residual(-1, 0, 0)", y.residual(-1, 0, 0), INVALID);
        due("residual(0, 0, 2)", y.residual(0, 0, 2), INVALID);
        y.dropRow(3);
        due("residual(0, 0, 0) if it is not whole", y.residual(0, 0, 0), IMPOSSIBLE);
        due("residual(0, 1, 0) if it is not whole", y.residual(0, 1, 0), INVALID);
        WeighingDesign z = star();
        weigh(z, 2, 1, -4, -3);
        z.set(1, 1);
        dueResidual(z, 0, 0, 0, 1);
        dueResidual(z, 4, 0, -1, 2);
        dueResidual(z, 4, 1, 1, 2);
    }

    private static void balance() {
        about = "promise 15";
        WeighingDesign x = loop();
        dueBalance(x, 0, 4, 3);
        for (int mass = 1; mass < 5; mass++) {
            dueBalance(x, mass, 0, 1);
        }
        due("balance(5, 0)", x.balance(5, 0), INVALID);
        due("balance(-1, 0)", x.balance(-1, 0), INVALID);
        due("balance(0, 2)", x.balance(0, 2), INVALID);
        weigh(x, 4, 3, 4);
        dueBalance(x, 0, 0, 1);
        x.dropRow(3);
        due("balance(0, 0) if it is not whole", x.balance(0, 0), IMPOSSIBLE);
        due("balance(5, 0) if it is not whole", x.balance(5, 0), INVALID);
    }

    private static void mean() {
        about = "promise 16";
        WeighingDesign x = new WeighingDesign();
        due("mean(0, 0) without rows", x.mean(0, 0), INVALID);
        weigh(x, 1, 2, 10, 12);
        weigh(x, 1, 4, -5, 1, 0, -3);
        weigh(x, 1, 8);
        weigh(x, 1, 16, 4, -4);
        dueMean(x, 0, 11, 1);
        dueMean(x, 1, -7, 4);
        dueMean(x, 3, 0, 1);
        due("mean(2, 0)", x.mean(2, 0), NOTHING);
        due("mean(2, 2)", x.mean(2, 2), INVALID);
        due("mean(4, 0)", x.mean(4, 0), INVALID);
        due("mean(0, -1)", x.mean(0, -1), INVALID);
    }

    private static void worst() {
        about = "promise 17";
        WeighingDesign x = star();
        due("worst(0) of equal ones", x.worst(0), 0);
        due("worst(1) of equal ones", x.worst(1), 0);
        x.addRow(2, 4);
        x.take(4, 10);
        x.take(0, 10);
        x.dropReading(0, 1);
        x.dropReading(0, 0);
        due("worst(0) of equal ones, row 0 without readings", x.worst(0), 1);
        due("worst(1) of equal ones, row 0 without readings", x.worst(1), 0);
        x.take(0, 10);
        x.dropRow(4);
        x.take(2, 36);
        x.take(3, 46);
        due("worst(0), the lowest row", x.worst(0), 2);
        due("worst(1), the lowest reading", x.worst(1), 0);
        x.take(3, 55);
        due("worst(0)", x.worst(0), 3);
        due("worst(1)", x.worst(1), 2);
        x.take(3, 0);
        due("worst(0) below 0", x.worst(0), 3);
        due("worst(1) below 0", x.worst(1), 3);
        due("worst(2)", x.worst(2), INVALID);
        due("worst(-1)", x.worst(-1), INVALID);
        x.dropRow(1);
        due("worst(0) if it is not whole", x.worst(0), IMPOSSIBLE);
        due("worst(2) if it is not whole", x.worst(2), INVALID);
    }

    private static void without() {
        about = "promise 18";
        WeighingDesign x = star();
        x.take(0, 13);
        x.take(0, 14);
        dueWithout(x, 0, 1, 1, -12, 1);
        dueWithout(x, 0, 0, 1, -27, 2);
        dueWithout(x, 0, 0, 4, -40, 1);
        dueValue(x, 1, -37, 3);
        due("without(1, 0, 1, 0) of a needed one", x.without(1, 0, 1, 0), IMPOSSIBLE);
        due("without(1, 0, 0, 0)", x.without(1, 0, 0, 0), INVALID);
        due("without(0, 0, 5, 0)", x.without(0, 0, 5, 0), INVALID);
        due("without(0, 3, 1, 0)", x.without(0, 3, 1, 0), INVALID);
        due("without(4, 0, 1, 0)", x.without(4, 0, 1, 0), INVALID);
        due("without(0, 0, 1, 2)", x.without(0, 0, 1, 2), INVALID);
        x.set(0, 5);
        dueWithout(x, 0, 1, 1, -7, 1);
        WeighingDesign y = star();
        weigh(y, 2, 1, -4, -3);
        y.set(1, 1);
        dueFraction("without with the pan", y.without(4, 0, 1, 0), y.without(4, 0, 1, 1), -13, 2);
        y.dropRow(1);
        due("without(3, 0, 1, 0) if it is not whole", y.without(3, 0, 1, 0), IMPOSSIBLE);
    }

    private static void chain() {
        about = "promise 19";
        WeighingDesign x = new WeighingDesign();
        due("chain(0)", x.chain(0), 0);
        due("chain(1)", x.chain(1), NOTHING);
        due("chain(5)", x.chain(5), INVALID);
        due("chain(-1)", x.chain(-1), INVALID);
        weigh(x, 8, 16, 0);
        weigh(x, 4, 8, 0);
        weigh(x, 2, 4, 0);
        weigh(x, 2, 1);
        due("chain(1) without a reading", x.chain(1), NOTHING);
        x.take(3, 0);
        for (int mass = 0; mass < 5; mass++) {
            due("chain(" + mass + ")", x.chain(mass), mass);
        }
        int before = x.count(10);
        weigh(x, 9, 2, 0);
        due("count(10) of four links", before, 5);
        due("chain(3) on the same pan", x.chain(3), 1);
        due("chain(2)", x.chain(2), 2);
        due("chain(4)", x.chain(4), 2);
        x.dropRow(0);
        due("chain(4)", x.chain(4), NOTHING);
        due("count(10)", x.count(10), 4);
    }

    private static void panBy() {
        about = "promise 20";
        WeighingDesign x = new WeighingDesign();
        weigh(x, 3, 4, 10, 13);
        weigh(x, 4, 3, -4);
        weigh(x, 4, 8, 1);
        weigh(x, 8, 4);
        duePanBy(x, 0, 15, 4);
        duePanBy(x, 1, 15, 4);
        due("panBy(2, 0)", x.panBy(2, 0), NOTHING);
        due("panBy(3, 1)", x.panBy(3, 1), NOTHING);
        due("panBy(3, 2)", x.panBy(3, 2), INVALID);
        due("panBy(4, 0)", x.panBy(4, 0), INVALID);
        due("panBy(-1, 0)", x.panBy(-1, 0), INVALID);
        x.take(3, -1);
        duePanBy(x, 2, 0, 1);
        x.take(3, -3);
        duePanBy(x, 3, -1, 2);
        x.dropReading(3, 0);
        duePanBy(x, 3, -1, 1);
    }

    private static void suspectPan() {
        about = "promise 10, suspect pan";
        WeighingDesign x = new WeighingDesign();
        weigh(x, 1, 2, 60);
        weigh(x, 2, 1, 40);
        due("count(8) at the limit", x.count(8), 0);
        x.take(1, 41);
        due("count(8) by a half above it", x.count(8), 1);
        x.set(2, 101);
        due("count(8) below the limit", x.count(8), 0);
        x.dropRow(0);
        due("count(8) without a swapped row", x.count(8), 0);
        weigh(x, 1, 2, -600);
        due("count(8) below 0", x.count(8), 1);
    }

    private static void mostSuspect() {
        about = "promise 21";
        WeighingDesign x = new WeighingDesign();
        due("mostSuspect() without rows", x.mostSuspect(), NOTHING);
        weigh(x, 1, 2, 500);
        weigh(x, 2, 4, 3);
        weigh(x, 4, 2, -3);
        due("mostSuspect() of 0", x.mostSuspect(), 1);
        weigh(x, 8, 4, -5, -6);
        weigh(x, 4, 8, 2);
        due("mostSuspect() below 0", x.mostSuspect(), 3);
        weigh(x, 16, 8, 2);
        weigh(x, 8, 16, 2, 1);
        due("mostSuspect(), the lowest of equal ones", x.mostSuspect(), 3);
        x.dropRow(0);
        x.take(0, 100);
        due("mostSuspect(), the row 0", x.mostSuspect(), 0);
        x.undo();
        x.undo();
        x.take(5, 3);
        due("mostSuspect()", x.mostSuspect(), 5);
        x.dropRow(4);
        x.dropRow(2);
        x.dropRow(4);
        due("mostSuspect() without swapped rows", x.mostSuspect(), NOTHING);
    }

    private static void type() {
        about = "promise 22";
        WeighingDesign x = new WeighingDesign();
        due("type(31)", x.type(31), INVALID);
        due("type(127)", x.type(127), INVALID);
        due("type(-1)", x.type(-1), INVALID);
        due("type(65536 + 48)", x.type(65536 + 48), INVALID);
        due("type(32)", x.type(32), 1);
        due("type(126)", x.type(126), 2);
        for (int length = 3; length <= 80; length++) {
            due("type(48)", x.type(48), length);
        }
        due("type(48) as the 81st", x.type(48), FULL);
        due("type(31) as the 81st", x.type(31), INVALID);
        due("count(12)", x.count(12), 80);
        due("count(11)", x.count(11), 0);
    }

    private static void clearText() {
        about = "promise 23";
        WeighingDesign x = new WeighingDesign();
        due("clearText() of nothing", x.clearText(), 0);
        typeAll(x, "0:1=5;0:");
        due("fault(0)", x.fault(0), 6);
        due("clearText()", x.clearText(), 8);
        due("count(12)", x.count(12), 0);
        due("fault(0)", x.fault(0), NOTHING);
        due("type(48)", x.type(48), 1);
        due("count(11)", x.count(11), 0);
    }

    private static void faultOfForm() {
        about = "promise 24, form";
        WeighingDesign x = new WeighingDesign();
        due("fault(0) of nothing", x.fault(0), NOTHING);
        due("fault(1) of nothing", x.fault(1), NOTHING);
        due("fault(2)", x.fault(2), INVALID);
        due("fault(-1)", x.fault(-1), INVALID);
        String[] bad = {";", " ", "0", "0:", "0:1", "0:1=", "0:1=5", "0:1=-;", "0:1=--5;", "0:1=+5;",
            "0:1=1234567;", "0:1=;", ":1=5;", "0:=5;", "00:1=5;", "0:11=5;", "10:2=5;", "0:21=5;",
            "5:1=5;", "0:5=5;", "0 :1=5;", "0:1 =5;", "0:1=5 ;", "0=1:5;", "0:0=5", "0:1=999999",
            "0:0=1234567;", "0:1=5-;", "0;1=5;", "a:1=5;", "0:1=1:2;"};
        for (String text : bad) {
            dueFault(x, text, 0, 1);
        }
        dueFault(x, "0:1=5;;", 6, 1);
        dueFault(x, "0:1=5; 0:1=6;", 6, 1);
        dueFault(x, "0:1=5;01:234=-000001;0:2", 21, 1);
    }

    private static void faultOfSense() {
        about = "promise 24, masses and reading";
        WeighingDesign x = new WeighingDesign();
        dueFault(x, "0:0=5;", 0, 2);
        dueFault(x, "0:1=5;01:12=5;", 6, 2);
        dueFault(x, "4:4=999999;", 0, 2);
        dueFault(x, "0:1=100001;", 0, 3);
        dueFault(x, "0:1=-100001;", 0, 3);
        dueFault(x, "0:1=999999;?", 0, 3);
        dueFault(x, "0:1=100000;0:1=-999999;0:0=1;", 11, 3);
        x.clearText();
        typeAll(x, "0:1=100000;0:1=-100000;01234:");
        due("fault(0)", x.fault(0), 23);
        due("fault(1)", x.fault(1), 1);
        due("fault(2) with a fault", x.fault(2), INVALID);
        x.clearText();
        typeAll(x, "0:1=100000;0:1=-100000;0:1=-0;0123:4=000000;");
        due("fault(0) without a fault", x.fault(0), NOTHING);
        due("fault(1) without a fault", x.fault(1), NOTHING);
    }

    private static void faultOfRoom() {
        about = "promise 24, room";
        WeighingDesign x = new WeighingDesign();
        weigh(x, 1, 2, 1, 2, 3, 4, 5);
        dueFault(x, "0:1=6;1:0=7;0:1=7;", 12, 4);
        dueFault(x, "0:1=6;0:1=100001;", 6, 3);
        dueFault(x, "1:0=1;1:0=2;1:0=3;1:0=4;1:0=5;1:0=6;1:0=7;", 36, 4);
        for (int right = 2; right <= 11; right++) {
            due("addRow(16, " + right + ")", x.addRow(16, right), right - 1);
        }
        dueFault(x, "1:0=1;1:0=2;2:0=3;", 12, 4);
        x.clearText();
        typeAll(x, "4:1=1;1:0=2;1:0=3;");
        due("fault(0) with room", x.fault(0), NOTHING);
        due("count(3) after fault", x.count(3), 11);
        x.dropRow(10);
        dueFault(x, "1:0=1;2:0=2;0:1=3;3:0=4;", 18, 4);
    }

    private static void enter() {
        about = "promise 25";
        WeighingDesign x = new WeighingDesign();
        due("enter() of nothing", x.enter(), 0);
        due("count(11)", x.count(11), 1);
        weigh(x, 1, 2, 7);
        typeAll(x, "02:134=-050;0:1=100000;02:134=9;");
        due("enter()", x.enter(), 3);
        due("count(3)", x.count(3), 2);
        due("row(0, 2)", x.row(0, 2), 2);
        due("reading(0, 1)", x.reading(0, 1), 100000);
        due("row(1, 0)", x.row(1, 0), 5);
        due("row(1, 1)", x.row(1, 1), 26);
        due("row(1, 2)", x.row(1, 2), 2);
        due("reading(1, 0)", x.reading(1, 0), -50);
        due("reading(1, 1)", x.reading(1, 1), 9);
        due("count(12)", x.count(12), 32);
        due("count(11)", x.count(11), 4);
        due("enter() again", x.enter(), 3);
        due("row(1, 2)", x.row(1, 2), 4);
        due("enter() again", x.enter(), 3);
        due("enter() without room", x.enter(), IMPOSSIBLE);
        due("row(0, 2) after it", x.row(0, 2), 4);
        due("row(1, 2) after it", x.row(1, 2), 6);
        due("undo() of one enter", x.undo(), 4);
        due("row(1, 2)", x.row(1, 2), 4);
        typeAll(x, "0");
        due("enter() with a fault", x.enter(), IMPOSSIBLE);
    }

    /** Readings that all differ from the standard by the most that there can be. */
    private static void largestNumbers() {
        about = "largest numbers";
        WeighingDesign x = new WeighingDesign();
        x.set(0, -100000);
        x.set(1, 1);
        int[][] rows = {{1, 30}, {3, 28}, {5, 26}, {9, 22}, {17, 14}, {7, 24}, {11, 20}, {19, 12},
            {13, 18}, {21, 10}, {25, 6}, {15, 16}};
        for (int[] row : rows) {
            weigh(x, row[0], row[1], 100000, 100000, 100000, 100000, 100000, 100000);
        }
        due("count(4)", x.count(4), 72);
        due("count(5)", x.count(5), 1);
        for (int mass = 1; mass < 5; mass++) {
            dueBalance(x, mass, 0, 1);
        }
        duePan(x, 200000, 1);
        dueValue(x, 1, 0, 1);
        dueBalance(x, 0, 0, 1);
        fullDesign(x);
    }

    /** Twelve rows of six readings, none of them swapped: each loop goes to its very end. */
    private static void fullDesign(WeighingDesign x) {
        due("count(8)", x.count(8), 0);
        due("count(9)", x.count(9), 0);
        due("count(10)", x.count(10), 5);
        due("count(13)", x.count(13), 0);
        due("worst(0)", x.worst(0), 0);
        due("mostSuspect()", x.mostSuspect(), NOTHING);
        due("find(16, 15)", x.find(16, 15), NOTHING);
        due("row(11, 3)", x.row(11, 3), NOTHING);
        dueResidual(x, 11, 5, 0, 1);
        dueFraction("mean(11)", x.mean(11, 0), x.mean(11, 1), 100000, 1);
        dueFault(x, "0123:4=1;", 0, 4);
        dueFault(x, "4:0=1;", 0, 4);
        due("dropReading(11, 5)", x.dropReading(11, 5), 5);
        due("dropReading(11, 0)", x.dropReading(11, 0), 4);
        due("undo()", x.undo(), 4);
        due("dropRow(11)", x.dropRow(11), 11);
        due("dropRow(0)", x.dropRow(0), 10);
        due("undo()", x.undo(), 4);
        due("undo()", x.undo(), 3);
        due("undo()", x.undo(), 2);
        due("row(11, 2)", x.row(11, 2), 6);
        due("row(0, 1)", x.row(0, 1), 30);
    }
}
