/** What the tests share that are worked out by hand: how an answer is judged, and usual designs. */
abstract class Checks {
    static final long INVALID = -2000000001L;
    static final long IMPOSSIBLE = -2000000002L;
    static final long FULL = -2000000003L;
    static final long NOTHING = -2000000004L;

    /** The promise or the sentence that the answers belong to. */
    static String about = "";

    private static int wrong = 0;

    static void due(String call, long got, long want) {
        if (got != want) {
            wrong++;
            System.out.println(about + ": " + call + " answered " + got + ", due is " + want);
        }
    }

    /** The last call of a test's main method. */
    static void finish() {
        System.out.println(wrong == 0 ? "all answers are as due" : wrong + " answers are not as due");
        if (wrong != 0) {
            System.exit(1);
        }
    }

    static void dueFraction(String call, long above, long below, long wantAbove, long wantBelow) {
        due(call + " numerator", above, wantAbove);
        due(call + " denominator", below, wantBelow);
    }

    static void dueValue(WeighingDesign x, int mass, long above, long below) {
        dueFraction("value(" + mass + ")", x.value(mass, 0), x.value(mass, 1), above, below);
    }

    static void duePan(WeighingDesign x, long above, long below) {
        dueFraction("pan", x.pan(0), x.pan(1), above, below);
    }

    static void dueResidual(WeighingDesign x, int row, int n, long above, long below) {
        dueFraction("residual(" + row + ", " + n + ")",
                x.residual(row, n, 0), x.residual(row, n, 1), above, below);
    }

    static void dueBalance(WeighingDesign x, int mass, long above, long below) {
        dueFraction("balance(" + mass + ")", x.balance(mass, 0), x.balance(mass, 1), above, below);
    }

    static void dueMean(WeighingDesign x, int row, long above, long below) {
        dueFraction("mean(" + row + ")", x.mean(row, 0), x.mean(row, 1), above, below);
    }

    static void dueWithout(WeighingDesign x, int row, int n, int mass, long above, long below) {
        dueFraction("without(" + row + ", " + n + ", " + mass + ")",
                x.without(row, n, mass, 0), x.without(row, n, mass, 1), above, below);
    }

    static void duePanBy(WeighingDesign x, int row, long above, long below) {
        dueFraction("panBy(" + row + ")", x.panBy(row, 0), x.panBy(row, 1), above, below);
    }

    /** The text is the object's whole text then. */
    static void dueFault(WeighingDesign x, String text, long position, long reason) {
        x.clearText();
        typeAll(x, text);
        due("fault(0) of " + text, x.fault(0), position);
        due("fault(1) of " + text, x.fault(1), reason);
        int changes = x.count(11);
        due("enter() of " + text, x.enter(), IMPOSSIBLE);
        due("count(11) after " + text, x.count(11), changes);
    }

    static void dueNoFault(WeighingDesign x, String text) {
        x.clearText();
        typeAll(x, text);
        due("fault(0) of " + text, x.fault(0), NOTHING);
        due("fault(1) of " + text, x.fault(1), NOTHING);
    }

    static void typeAll(WeighingDesign x, String text) {
        for (int i = 0; i < text.length(); i++) {
            x.type(text.charAt(i));
        }
    }

    static void weigh(WeighingDesign x, int left, int right, int... readings) {
        int row = x.addRow(left, right);
        for (int reading : readings) {
            x.take(row, reading);
        }
    }

    /** The standard against each mass, which is so much lighter: 10, 20, 30 and 40. */
    static WeighingDesign star() {
        return star(10);
    }

    /** With these readings for mass 1. */
    static WeighingDesign star(int... readings) {
        WeighingDesign x = new WeighingDesign();
        weigh(x, 1, 2, readings);
        weigh(x, 1, 4, 20);
        weigh(x, 1, 8, 30);
        weigh(x, 1, 16, 40);
        return x;
    }

    /** Masses 1 and 2 are weighed in three rows that disagree by 4 alone. */
    static WeighingDesign loop() {
        return loop(4);
    }

    /** That disagree by so much. */
    static WeighingDesign loop(int by) {
        WeighingDesign x = new WeighingDesign();
        weigh(x, 3, 4, by);
        weigh(x, 1, 2, 0);
        weigh(x, 1, 4, 0);
        weigh(x, 1, 8, 5);
        weigh(x, 1, 16, 6);
        return x;
    }

    /** Twelve rows, the masses of the left and of the right pan; three pairs of them are swapped. */
    static final int[][] TWELVE = {{1, 2}, {1, 4}, {1, 8}, {1, 16}, {2, 1}, {2, 4}, {2, 8}, {2, 16},
        {4, 1}, {4, 2}, {4, 8}, {4, 16}};

    /** As many rows as there may be, none of them with a reading. */
    static WeighingDesign twelveRows() {
        WeighingDesign x = new WeighingDesign();
        for (int[] row : TWELVE) {
            x.addRow(row[0], row[1]);
        }
        return x;
    }

    /** As many rows and readings as there may be; the reading n of a row is 10 * row + n. */
    static WeighingDesign fullDesign() {
        WeighingDesign x = twelveRows();
        for (int row = 0; row < 12; row++) {
            for (int n = 0; n < 6; n++) {
                x.take(row, 10 * row + n);
            }
        }
        return x;
    }

    /** All that is in an object but its history, in some 140 calls: an object is used for 512. */
    static String look(WeighingDesign x) {
        StringBuilder seen = new StringBuilder();
        for (int what = 0; what < 14; what++) {
            if (what != 11) {
                see(seen, "count " + what, x.count(what));
            }
        }
        for (int row = 0; row < x.count(3); row++) {
            see(seen, "row " + row, x.row(row, 0));
            see(seen, "right", x.row(row, 1));
            int readings = x.row(row, 2);
            for (int n = 0; n < readings; n++) {
                see(seen, "reading " + n, x.reading(row, n));
            }
        }
        for (int mass = 1; mass < 5; mass++) {
            see(seen, "value " + mass, x.value(mass, 0));
        }
        see(seen, "fault", x.fault(0));
        see(seen, "reason", x.fault(1));
        return seen.toString();
    }

    private static void see(StringBuilder seen, String what, long answer) {
        seen.append(what).append(' ').append(answer).append('\n');
    }

    static void dueSame(String call, String got, String want) {
        if (!got.equals(want)) {
            wrong++;
            System.out.println(about + ": after " + call + " there is\n" + got + "due is\n" + want);
        }
    }
}
