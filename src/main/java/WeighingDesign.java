/**
 * A weighing design: four masses are weighed against a standard, in rows with masses on both pans
 * and repeated readings. The values come from all readings together by least squares.
 *
 * All fractions are exact in long: a determinant of the normal equations is at most 72^5, the
 * numerators over it stay below 10^16, and sums of residuals below 10^17.
 */
public final class WeighingDesign {
    public static final int INVALID_ARGUMENT = -2000000001;
    public static final int NOT_POSSIBLE = -2000000002;
    public static final int LIMIT_REACHED = -2000000003;
    public static final int NOT_FOUND = -2000000004;

    private static final int MASSES = 5;
    private static final int ALL_MASSES = 31;
    private static final int MAX_ROWS = 12;
    private static final int MAX_READINGS = 6;
    private static final int MAX_AMOUNT = 100000;
    private static final int FIRST_LIMIT = 100;
    private static final int MAX_STATES = 5;
    private static final int MAX_TEXT = 80;
    private static final int MAX_DIGITS = 6;

    private static final int UNKNOWN_MASSES = 4;
    private static final int MAX_UNKNOWNS = 5;
    private static final int PAN_UNKNOWN = 4;

    /** No row, no mass, no column: never a number of one. */
    private static final int NONE = -1;

    private static final int NO_FAULT = 0;
    private static final int BAD_FORM = 1;
    private static final int MASS_ON_BOTH_PANS = 2;
    private static final int AMOUNT_OUT_OF_RANGE = 3;
    private static final int NO_ROOM = 4;

    /** Euclid's algorithm needs fewer than 100 divisions for any two longs. */
    private static final int MAX_DIVISIONS = 100;

    private final Design design;
    private final History history;
    private final Text text;
    private final Trial trial;
    private final Solver solver;

    public WeighingDesign() {
        design = new Design();
        history = new History();
        text = new Text();
        trial = new Trial();
        solver = new Solver();
    }

    // ---- rows and readings

    public int set(int what, int value) {
        if (!isSetting(what, value)) {
            return INVALID_ARGUMENT;
        }
        int previous = settingOf(what);
        history.keep(design);
        if (what == 0) {
            design.standard = value;
        } else if (what == 1) {
            design.panSetting = value;
        } else {
            design.limit = value;
        }
        return previous;
    }

    public int addRow(int left, int right) {
        if (!isPan(left) || !isPan(right) || (left & right) != 0) {
            return INVALID_ARGUMENT;
        }
        if (design.rowWith(left, right) != NONE) {
            return NOT_POSSIBLE;
        }
        if (design.rows >= MAX_ROWS) {
            return LIMIT_REACHED;
        }
        history.keep(design);
        return design.appendRow(left, right);
    }

    public int dropRow(int row) {
        if (!design.hasRow(row)) {
            return INVALID_ARGUMENT;
        }
        history.keep(design);
        design.removeRow(row);
        return design.rows;
    }

    public int take(int row, int reading) {
        if (!design.hasRow(row) || !isAmount(reading)) {
            return INVALID_ARGUMENT;
        }
        if (design.taken[row] >= MAX_READINGS) {
            return LIMIT_REACHED;
        }
        history.keep(design);
        return design.appendReading(row, reading);
    }

    public int dropReading(int row, int reading) {
        if (!design.hasReading(row, reading)) {
            return INVALID_ARGUMENT;
        }
        history.keep(design);
        design.removeReading(row, reading);
        return design.taken[row];
    }

    public int row(int row, int what) {
        if (!design.hasRow(row)) {
            return INVALID_ARGUMENT;
        }
        switch (what) {
            case 0:
                return design.left[row];
            case 1:
                return design.right[row];
            case 2:
                return design.taken[row];
            case 3:
                return foundOr(design.swappedWith(row));
            case 4:
                return oneIf(solver.isNeeded(design, row));
            default:
                return INVALID_ARGUMENT;
        }
    }

    public int reading(int row, int reading) {
        return design.hasReading(row, reading) ? design.readingAt(row, reading) : INVALID_ARGUMENT;
    }

    public int find(int left, int right) {
        if (!isPan(left) || !isPan(right)) {
            return INVALID_ARGUMENT;
        }
        return foundOr(design.rowWith(left, right));
    }

    public int count(int what) {
        switch (what) {
            case 0:
            case 1:
            case 2:
                return settingOf(what);
            case 3:
                return design.rows;
            case 4:
                return design.allTaken();
            case 5:
                return oneIf(solver.isWhole(design));
            case 6:
                return design.unknowns();
            case 7:
                return design.allTaken() - design.unknowns();
            case 8:
                return oneIf(design.isPanSuspect());
            case 9:
                return design.swappedPairs();
            case 10:
                return design.chainedMasses();
            case 11:
                return history.states;
            case 12:
                return text.length;
            case 13:
                return solver.neededRows(design);
            default:
                return INVALID_ARGUMENT;
        }
    }

    public int undo() {
        if (history.states == 0) {
            return NOT_POSSIBLE;
        }
        history.restore(design);
        return history.states;
    }

    // ---- values

    public long value(int mass, int part) {
        if (!isMass(mass) || !isPart(part)) {
            return INVALID_ARGUMENT;
        }
        if (!solver.solve(design)) {
            return NOT_POSSIBLE;
        }
        if (mass == 0) {
            return partOf(design.standard, 1, part);
        }
        return partOf(solver.numerators[mass - 1], solver.determinant, part);
    }

    public long pan(int part) {
        if (!isPart(part)) {
            return INVALID_ARGUMENT;
        }
        if (!solver.solve(design)) {
            return NOT_POSSIBLE;
        }
        if (design.panSetting == 0) {
            return partOf(0, 1, part);
        }
        return partOf(solver.numerators[PAN_UNKNOWN], solver.determinant, part);
    }

    public long residual(int row, int reading, int part) {
        if (!design.hasReading(row, reading) || !isPart(part)) {
            return INVALID_ARGUMENT;
        }
        if (!solver.solve(design)) {
            return NOT_POSSIBLE;
        }
        return partOf(solver.residualOf(design, row, reading), solver.determinant, part);
    }

    public long balance(int mass, int part) {
        if (!isMass(mass) || !isPart(part)) {
            return INVALID_ARGUMENT;
        }
        if (!solver.solve(design)) {
            return NOT_POSSIBLE;
        }
        return partOf(solver.balanceOf(design, mass), solver.determinant, part);
    }

    public long mean(int row, int part) {
        if (!design.hasRow(row) || !isPart(part)) {
            return INVALID_ARGUMENT;
        }
        if (design.taken[row] == 0) {
            return NOT_FOUND;
        }
        return partOf(design.sumOf(row), design.taken[row], part);
    }

    public int worst(int what) {
        if (what != 0 && what != 1) {
            return INVALID_ARGUMENT;
        }
        if (!solver.solve(design)) {
            return NOT_POSSIBLE;
        }
        int place = solver.worstPlace(design);
        return what == 0 ? place / MAX_READINGS : place % MAX_READINGS;
    }

    public long without(int row, int reading, int mass, int part) {
        if (!design.hasReading(row, reading) || !isMass(mass) || mass == 0 || !isPart(part)) {
            return INVALID_ARGUMENT;
        }
        if (!solver.solveWithout(design, row, reading)) {
            return NOT_POSSIBLE;
        }
        return partOf(solver.numerators[mass - 1], solver.determinant, part);
    }

    // ---- chain, suspect pan

    public int chain(int mass) {
        return isMass(mass) ? foundOr(design.linksToStandard(mass)) : INVALID_ARGUMENT;
    }

    public long panBy(int row, int part) {
        if (!design.hasRow(row) || !isPart(part)) {
            return INVALID_ARGUMENT;
        }
        int other = design.swappedWith(row);
        if (other == NONE) {
            return NOT_FOUND;
        }
        return partOf(design.meansNumerator(row, other), 2 * design.meansDenominator(row, other), part);
    }

    public int mostSuspect() {
        return foundOr(design.mostSuspectRow());
    }

    // ---- texts

    public int type(int character) {
        if (character < 32 || character > 126) {
            return INVALID_ARGUMENT;
        }
        if (text.length >= MAX_TEXT) {
            return LIMIT_REACHED;
        }
        text.append((char) character);
        return text.length;
    }

    public int clearText() {
        int length = text.length;
        text.length = 0;
        return length;
    }

    public int fault(int what) {
        if (what != 0 && what != 1) {
            return INVALID_ARGUMENT;
        }
        trial.run(text, design);
        if (trial.reason == NO_FAULT) {
            return NOT_FOUND;
        }
        return what == 0 ? trial.position : trial.reason;
    }

    public int enter() {
        trial.run(text, design);
        if (trial.reason != NO_FAULT) {
            return NOT_POSSIBLE;
        }
        history.keep(design);
        design.copyFrom(trial.design);
        return trial.entered;
    }

    // ---- what the calls above share

    private static boolean isSetting(int what, int value) {
        switch (what) {
            case 0:
                return isAmount(value);
            case 1:
                return value == 0 || value == 1;
            case 2:
                return value >= 0 && value <= MAX_AMOUNT;
            default:
                return false;
        }
    }

    private int settingOf(int what) {
        if (what == 0) {
            return design.standard;
        }
        return what == 1 ? design.panSetting : design.limit;
    }

    private static boolean isAmount(int value) {
        return value >= -MAX_AMOUNT && value <= MAX_AMOUNT;
    }

    private static boolean isPan(int masses) {
        return masses >= 1 && masses <= ALL_MASSES;
    }

    private static boolean isMass(int mass) {
        return mass >= 0 && mass < MASSES;
    }

    private static boolean isPart(int part) {
        return part == 0 || part == 1;
    }

    private static int foundOr(int number) {
        return number == NONE ? NOT_FOUND : number;
    }

    private static int oneIf(boolean holds) {
        return holds ? 1 : 0;
    }

    /** The denominator is above 0 wherever this is called. */
    private static long partOf(long numerator, long denominator, int part) {
        long divisor = commonDivisor(denominator, numerator);
        return part == 0 ? numerator / divisor : denominator / divisor;
    }

    /** At least 1, so that it can be divided by. */
    private static long commonDivisor(long first, long second) {
        long divisor = Math.abs(first);
        long rest = Math.abs(second);
        for (int n = 0; n < MAX_DIVISIONS && rest != 0; n++) {
            long next = divisor % rest;
            divisor = rest;
            rest = next;
        }
        return Math.max(divisor, 1);
    }

    /**
     * All that a change may change: the settings, and the rows with their readings. Numbers that
     * come from a call are tested by the call (hasRow, hasReading, isMass) before they get here.
     */
    private static final class Design {
        int standard;
        int panSetting;
        int limit;
        int rows;
        final int[] left;
        final int[] right;
        /** How many readings each row has. */
        final int[] taken;
        /** MAX_READINGS places for each row, one row behind the other. */
        final int[] readings;

        Design() {
            limit = FIRST_LIMIT;
            left = new int[MAX_ROWS];
            right = new int[MAX_ROWS];
            taken = new int[MAX_ROWS];
            readings = new int[MAX_ROWS * MAX_READINGS];
        }

        void copyFrom(Design other) {
            standard = other.standard;
            panSetting = other.panSetting;
            limit = other.limit;
            rows = other.rows;
            for (int row = 0; row < rows; row++) {
                copyRow(other, row, row);
            }
        }

        private void copyRow(Design other, int from, int to) {
            left[to] = other.left[from];
            right[to] = other.right[from];
            taken[to] = other.taken[from];
            for (int n = 0; n < taken[to]; n++) {
                readings[to * MAX_READINGS + n] = other.readings[from * MAX_READINGS + n];
            }
        }

        boolean hasRow(int row) {
            return row >= 0 && row < rows;
        }

        boolean hasReading(int row, int number) {
            return hasRow(row) && number >= 0 && number < taken[row];
        }

        int readingAt(int row, int number) {
            return readings[row * MAX_READINGS + number];
        }

        int rowWith(int leftMasses, int rightMasses) {
            for (int row = 0; row < rows; row++) {
                if (left[row] == leftMasses && right[row] == rightMasses) {
                    return row;
                }
            }
            return NONE;
        }

        int appendRow(int leftMasses, int rightMasses) {
            int row = rows;
            left[row] = leftMasses;
            right[row] = rightMasses;
            taken[row] = 0;
            rows = row + 1;
            return row;
        }

        void removeRow(int row) {
            rows = rows - 1;
            for (int next = row; next < rows; next++) {
                copyRow(this, next + 1, next);
            }
        }

        int appendReading(int row, int amount) {
            int number = taken[row];
            readings[row * MAX_READINGS + number] = amount;
            taken[row] = number + 1;
            return number;
        }

        void removeReading(int row, int number) {
            taken[row] = taken[row] - 1;
            for (int next = number; next < taken[row]; next++) {
                readings[row * MAX_READINGS + next] = readings[row * MAX_READINGS + next + 1];
            }
        }

        /** Takes a reading in the row with these sets, made if there is none; false without room. */
        boolean takeIn(int leftMasses, int rightMasses, int amount) {
            int row = rowWith(leftMasses, rightMasses);
            if (row == NONE && rows < MAX_ROWS) {
                row = appendRow(leftMasses, rightMasses);
            }
            if (row == NONE || taken[row] >= MAX_READINGS) {
                return false;
            }
            appendReading(row, amount);
            return true;
        }

        int unknowns() {
            return UNKNOWN_MASSES + panSetting;
        }

        int allTaken() {
            int all = 0;
            for (int row = 0; row < rows; row++) {
                all += taken[row];
            }
            return all;
        }

        int sumOf(int row) {
            int sum = 0;
            for (int n = 0; n < taken[row]; n++) {
                sum += readingAt(row, n);
            }
            return sum;
        }

        int signOf(int row, int mass) {
            return (left[row] >> mass & 1) - (right[row] >> mass & 1);
        }

        /** The number that an unknown number is multiplied with in the readings of a row. */
        int factorOf(int row, int unknown) {
            return unknown == PAN_UNKNOWN ? 1 : signOf(row, unknown + 1);
        }

        // ---- chains

        int linksToStandard(int mass) {
            int reached = 1;
            for (int links = 0; links < MASSES; links++) {
                if ((reached >> mass & 1) == 1) {
                    return links;
                }
                reached = oneLinkOn(reached);
            }
            return NONE;
        }

        int chainedMasses() {
            int reached = 1;
            for (int links = 1; links < MASSES; links++) {
                reached = oneLinkOn(reached);
            }
            return Integer.bitCount(reached);
        }

        private int oneLinkOn(int reached) {
            int further = reached;
            for (int row = 0; row < rows; row++) {
                int masses = left[row] | right[row];
                if (taken[row] > 0 && (masses & reached) != 0) {
                    further |= masses;
                }
            }
            return further;
        }

        // ---- swapped rows

        int swappedWith(int row) {
            int other = rowWith(right[row], left[row]);
            return other != NONE && taken[row] > 0 && taken[other] > 0 ? other : NONE;
        }

        int swappedPairs() {
            int pairs = 0;
            for (int row = 0; row < rows; row++) {
                if (swappedWith(row) > row) {
                    pairs++;
                }
            }
            return pairs;
        }

        /** The sum of two rows' means is this over meansDenominator. */
        long meansNumerator(int row, int other) {
            return (long) sumOf(row) * taken[other] + (long) sumOf(other) * taken[row];
        }

        long meansDenominator(int row, int other) {
            return (long) taken[row] * taken[other];
        }

        boolean isPanSuspect() {
            for (int row = 0; row < rows; row++) {
                int other = swappedWith(row);
                if (other != NONE
                        && Math.abs(meansNumerator(row, other)) > limit * meansDenominator(row, other)) {
                    return true;
                }
            }
            return false;
        }

        int mostSuspectRow() {
            int most = NONE;
            long mostNumerator = 0;
            long mostDenominator = 1;
            for (int row = 0; row < rows; row++) {
                int other = swappedWith(row);
                if (other != NONE) {
                    long numerator = Math.abs(meansNumerator(row, other));
                    long denominator = meansDenominator(row, other);
                    if (most == NONE || numerator * mostDenominator > mostNumerator * denominator) {
                        most = row;
                        mostNumerator = numerator;
                        mostDenominator = denominator;
                    }
                }
            }
            return most;
        }
    }

    /** The states before the latest changes, the oldest one first. */
    private static final class History {
        final Design[] kept;
        int states;

        History() {
            kept = new Design[MAX_STATES];
            for (int n = 0; n < MAX_STATES; n++) {
                kept[n] = new Design();
            }
        }

        void keep(Design design) {
            if (states == MAX_STATES) {
                dropOldest();
            }
            kept[states].copyFrom(design);
            states = states + 1;
        }

        /** The oldest one's place is used again, so that no call makes an object. */
        private void dropOldest() {
            Design oldest = kept[0];
            for (int n = 1; n < MAX_STATES; n++) {
                kept[n - 1] = kept[n];
            }
            kept[MAX_STATES - 1] = oldest;
            states = states - 1;
        }

        void restore(Design design) {
            states = states - 1;
            design.copyFrom(kept[states]);
        }
    }

    /** The text, and what its row says that was read last. */
    private static final class Text {
        final char[] characters;
        int length;
        int left;
        int right;
        int amount;
        /** The position behind what has been read. */
        int next;

        Text() {
            characters = new char[MAX_TEXT];
        }

        void append(char character) {
            characters[length] = character;
            length = length + 1;
        }

        /** Tells if the row that begins at the position is of the form. */
        boolean readRow(int position) {
            next = position;
            left = readMasses();
            if (left == 0 || !pass(':')) {
                return false;
            }
            right = readMasses();
            if (right == 0 || !pass('=')) {
                return false;
            }
            return readAmount() && pass(';');
        }

        /** A digit that stands twice or not in order is left to stand, where no mass is read. */
        private int readMasses() {
            int masses = 0;
            for (int mass = 0; mass < MASSES; mass++) {
                if (pass((char) ('0' + mass))) {
                    masses |= 1 << mass;
                }
            }
            return masses;
        }

        private boolean readAmount() {
            boolean negative = pass('-');
            int digits = 0;
            int absolute = 0;
            while (digits < MAX_DIGITS && isDigit(here())) {
                absolute = absolute * 10 + (here() - '0');
                next = next + 1;
                digits++;
            }
            amount = negative ? -absolute : absolute;
            return digits > 0;
        }

        private boolean pass(char character) {
            if (here() != character) {
                return false;
            }
            next = next + 1;
            return true;
        }

        /** Behind the end it is a character that no text has. */
        private char here() {
            return next < length ? characters[next] : (char) 0;
        }

        private static boolean isDigit(char character) {
            return character >= '0' && character <= '9';
        }
    }

    /** The text, entered on trial: rows that it makes count for the rows behind them. */
    private static final class Trial {
        final Design design;
        int entered;
        /** Of the fault, if there is a reason. */
        int position;
        int reason;

        Trial() {
            design = new Design();
        }

        void run(Text text, Design present) {
            design.copyFrom(present);
            entered = 0;
            position = 0;
            reason = NO_FAULT;
            for (int n = 0; n < MAX_TEXT && position < text.length; n++) {
                reason = enterRow(text);
                if (reason != NO_FAULT) {
                    return;
                }
                entered = entered + 1;
                position = text.next;
            }
        }

        private int enterRow(Text text) {
            if (!text.readRow(position)) {
                return BAD_FORM;
            }
            if ((text.left & text.right) != 0) {
                return MASS_ON_BOTH_PANS;
            }
            if (!isAmount(text.amount)) {
                return AMOUNT_OUT_OF_RANGE;
            }
            return design.takeIn(text.left, text.right, text.amount) ? NO_FAULT : NO_ROOM;
        }
    }

    /** The least squares: the normal equations, and their solution by Cramer's rule. */
    private static final class Solver {
        final long[][] normal;
        final long[] sums;
        /** By a set of columns, the determinant of these columns in as many first rows. */
        final long[] minors;
        final long[] numerators;
        int unknowns;
        long determinant;

        Solver() {
            normal = new long[MAX_UNKNOWNS][MAX_UNKNOWNS];
            sums = new long[MAX_UNKNOWNS];
            minors = new long[1 << MAX_UNKNOWNS];
            numerators = new long[MAX_UNKNOWNS];
        }

        boolean isWhole(Design design) {
            gather(design);
            return isRegular();
        }

        boolean isNeeded(Design design, int row) {
            return isWhole(design) && breaksWithout(design, row);
        }

        int neededRows(Design design) {
            if (!isWhole(design)) {
                return 0;
            }
            int needed = 0;
            for (int row = 0; row < design.rows; row++) {
                if (breaksWithout(design, row)) {
                    needed++;
                }
            }
            return needed;
        }

        boolean solve(Design design) {
            gather(design);
            return solveGathered();
        }

        boolean solveWithout(Design design, int row, int number) {
            gather(design);
            weigh(design, row, -1, -design.readingAt(row, number));
            return solveGathered();
        }

        /** The numerator of a residual over the determinant, once it is solved. */
        long residualOf(Design design, int row, int number) {
            long known = (long) design.signOf(row, 0) * design.standard;
            long residual = determinant * (design.readingAt(row, number) - known);
            for (int i = 0; i < unknowns; i++) {
                residual -= design.factorOf(row, i) * numerators[i];
            }
            return residual;
        }

        /** The numerator over the determinant, once it is solved. */
        long balanceOf(Design design, int mass) {
            long balance = 0;
            for (int row = 0; row < design.rows; row++) {
                int sign = design.signOf(row, mass);
                for (int n = 0; n < design.taken[row]; n++) {
                    balance += sign * residualOf(design, row, n);
                }
            }
            return balance;
        }

        /** The row times MAX_READINGS, plus the number in it, once it is solved. */
        int worstPlace(Design design) {
            int place = 0;
            long greatest = -1;
            for (int row = 0; row < design.rows; row++) {
                for (int n = 0; n < design.taken[row]; n++) {
                    long size = Math.abs(residualOf(design, row, n));
                    if (size > greatest) {
                        greatest = size;
                        place = row * MAX_READINGS + n;
                    }
                }
            }
            return place;
        }

        private void gather(Design design) {
            unknowns = design.unknowns();
            for (int i = 0; i < MAX_UNKNOWNS; i++) {
                sums[i] = 0;
                for (int j = 0; j < MAX_UNKNOWNS; j++) {
                    normal[i][j] = 0;
                }
            }
            for (int row = 0; row < design.rows; row++) {
                weigh(design, row, design.taken[row], design.sumOf(row));
            }
        }

        /** Counts so many readings of a row, with this sum, into the equations, or out of them. */
        private void weigh(Design design, int row, int times, int sum) {
            long known = (long) times * design.signOf(row, 0) * design.standard;
            for (int i = 0; i < unknowns; i++) {
                int factor = design.factorOf(row, i);
                if (factor != 0) {
                    sums[i] += factor * (sum - known);
                    for (int j = 0; j < unknowns; j++) {
                        normal[i][j] += factor * design.factorOf(row, j) * times;
                    }
                }
            }
        }

        /** The row is counted out and, for the next question, in again. */
        private boolean breaksWithout(Design design, int row) {
            int times = design.taken[row];
            int sum = design.sumOf(row);
            weigh(design, row, -times, -sum);
            boolean breaks = !isRegular();
            weigh(design, row, times, sum);
            return breaks;
        }

        private boolean isRegular() {
            return determinantWith(NONE) != 0;
        }

        private boolean solveGathered() {
            determinant = determinantWith(NONE);
            if (determinant == 0) {
                return false;
            }
            for (int i = 0; i < unknowns; i++) {
                numerators[i] = determinantWith(i);
            }
            return true;
        }

        /**
         * The determinant with the sums in the place of a column. Sums and products alone make it:
         * a step in between that overflows does no harm, as the end is right modulo 2^64 and fits.
         */
        private long determinantWith(int column) {
            int sets = 1 << unknowns;
            minors[0] = 1;
            for (int columns = 1; columns < sets; columns++) {
                minors[columns] = minorOf(columns, column);
            }
            return minors[sets - 1];
        }

        /** Expanded by the last one of the rows; the sign turns with each column, from the right. */
        private long minorOf(int columns, int replaced) {
            int row = Integer.bitCount(columns) - 1;
            long minor = 0;
            int sign = 1;
            for (int j = unknowns - 1; j >= 0; j--) {
                if ((columns >> j & 1) == 1) {
                    long entry = j == replaced ? sums[row] : normal[row][j];
                    minor += sign * entry * minors[columns & ~(1 << j)];
                    sign = -sign;
                }
            }
            return minor;
        }
    }
}
