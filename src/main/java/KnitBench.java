/**
 * A bench for hand-knitting: rows are typed as texts with brackets and repeats, flattened against
 * the loops on the needle, worked loop by loop, taken back; the fabric can be looked at, and a row
 * be told in the fewest words.
 */
public final class KnitBench {
    private final Tape tape;
    private final Fabric fabric;
    private final RowReader reader;
    private final Knitter knitter;

    // Made by the first shorten only: its table is by far the largest part of an object.
    private Shortest shortest;

    public KnitBench() {
        Plan plan = new Plan();
        tape = new Tape();
        fabric = new Fabric();
        reader = new RowReader(tape, plan);
        knitter = new Knitter(plan, fabric);
        fabric.castOn(1, false);
    }

    public void begin(int loops, boolean round) throws IllegalArgumentException {
        if (loops < 1 || loops > Fabric.MOST_LIVE) {
            throw new IllegalArgumentException("loops are 1 .. 40");
        }
        fabric.castOn(loops, round);
        if (shortest != null) {
            shortest.forget();
        }
    }

    public int feed(long bytes, int n) throws IllegalArgumentException, IllegalStateException {
        if (n < 1 || n > 8) {
            throw new IllegalArgumentException("n is 1 .. 8");
        }
        if (!tape.hasRoomFor(n)) {
            throw new IllegalStateException("the tape has at most 200 bytes");
        }
        tape.add(bytes, n);
        return tape.length();
    }

    public int work() {
        int answer = reader.readTape();
        if (answer == Fault.NONE) {
            answer = knitter.knitPlan(tape.length());
        }
        tape.clear();
        return answer;
    }

    public int rows() {
        return fabric.rowCount();
    }

    public int unravel(int k) throws IllegalArgumentException {
        if (k < 0 || k > fabric.rowCount()) {
            throw new IllegalArgumentException("k is 0 .. the number of rows");
        }
        fabric.takeBack(k);
        return fabric.rowCount();
    }

    public int live(int i) {
        return fabric.needleLoop(i);
    }

    public int loop(int loop, int what) throws IllegalArgumentException {
        if (!fabric.hasLoop(loop)) {
            throw new IllegalArgumentException("no such loop");
        }
        if (what < 0 || what >= 3 + fabric.parentCount(loop)) {
            throw new IllegalArgumentException("no such what");
        }
        switch (what) {
            case 0:
                return fabric.bornIn(loop);
            case 1:
                return fabric.diedIn(loop);
            case 2:
                return fabric.parentCount(loop);
            default:
                return fabric.parent(loop, what - 3);
        }
    }

    public int chart(int row, int c) throws IllegalArgumentException, IndexOutOfBoundsException {
        requireRow(row);
        if (c < 0 || c >= fabric.stitchCount(row)) {
            throw new IndexOutOfBoundsException("no such stitch");
        }
        return fabric.stitchSeen(row, c);
    }

    public int row(int row, int what) throws IllegalArgumentException {
        requireRow(row);
        switch (what) {
            case 0:
                return fabric.stitchCount(row);
            case 1:
                return fabric.crossings(row);
            case 2:
                return fabric.madeIn(row - 1);
            case 3:
                return fabric.madeIn(row);
            case 4:
                return fabric.boundIn(row, row);
            default:
                throw new IllegalArgumentException("no such what");
        }
    }

    public int shorten(int row) throws IllegalArgumentException {
        requireRow(row);
        if (shortest == null) {
            shortest = new Shortest();
        }
        return shortest.tellRow(fabric, row);
    }

    public int out(int i) throws IllegalArgumentException {
        if (i < 0) {
            throw new IllegalArgumentException("i is 0 or more");
        }
        return shortest == null ? -1 : shortest.byteAt(i);
    }

    public int ladder(int i) throws IllegalArgumentException {
        int top = fabric.needleLoop(i);
        if (top < 0) {
            throw new IllegalArgumentException("no loop at this place");
        }
        return fabric.ladderLength(top);
    }

    public int total(int what) throws IllegalArgumentException {
        int all = fabric.loopCount();
        int alive = fabric.liveCount();
        int bound = fabric.boundIn(1, fabric.rowCount());
        switch (what) {
            case 0:
                return all;
            case 1:
                return alive;
            case 2:
                return all - alive - bound;
            case 3:
                return bound;
            default:
                throw new IllegalArgumentException("no such what");
        }
    }

    private void requireRow(int number) {
        if (number < 1 || number > fabric.rowCount()) {
            throw new IllegalArgumentException("no such row");
        }
    }

    /** The document's faults, as work answers them. */
    private static final class Fault {
        static final int NONE = 0;
        static final int WRONG_TEXT = 1;
        static final int TOO_DEEP = 2;
        static final int NO_REPEAT = 3;
        static final int TOO_FEW_LEFT = 4;
        static final int BINDS_ONLY_LOOP = 5;
        static final int TOO_MANY_LOOPS = 6;
        static final int LEFT_OVER = 7;
        static final int TOO_MANY_LIVE = 8;
        static final int TOO_MANY_ROWS = 9;

        static int answer(int fault, int place) {
            return -(1000 * fault + place);
        }
    }

    /**
     * Stitches as numbers, the same that the chart tells: 0 .. 9, and cables with their a and b.
     */
    private static final class Stitch {
        static final int K = 0;
        static final int P = 1;
        static final int SL = 2;
        static final int K2TOG = 3;
        static final int SSK = 4;
        static final int K3TOG = 5;
        static final int KFB = 6;
        static final int YO = 7;
        static final int BIND = 8;
        static final int CAST = 9;
        static final int CABLE_FRONT = 10;
        static final int CABLE_BEHIND = 11;

        private static final int[] TAKES = {1, 1, 1, 2, 2, 3, 1, 0, 1, 0};
        private static final int[] MAKES = {1, 1, 1, 1, 1, 1, 2, 1, 0, 1};

        static int cable(int a, int b, int kind) {
            return 100 * a + 10 * b + kind;
        }

        static boolean isCable(int stitch) {
            return stitch >= CABLE_FRONT;
        }

        static int cableA(int stitch) {
            return stitch / 100;
        }

        /** The kind of a cable puts one ten more on those of b. */
        static int cableB(int stitch) {
            return stitch / 10 % 10 - 1;
        }

        static boolean isBehind(int stitch) {
            return stitch % 10 == CABLE_BEHIND % 10;
        }

        static int loopsTaken(int stitch) {
            if (stitch < 0 || stitch >= TAKES.length) {
                return cableA(stitch) + cableB(stitch);
            }
            return TAKES[stitch];
        }

        static int loopsMade(int stitch) {
            if (stitch < 0 || stitch >= MAKES.length) {
                return cableA(stitch) + cableB(stitch);
            }
            return MAKES[stitch];
        }

        static int seenFromBehind(int stitch) {
            if (stitch == K) {
                return P;
            }
            return stitch == P ? K : stitch;
        }

        static String nameOf(int stitch) {
            switch (stitch) {
                case K:
                    return "k";
                case P:
                    return "p";
                case SL:
                    return "sl";
                case K2TOG:
                    return "k2tog";
                case SSK:
                    return "ssk";
                case K3TOG:
                    return "k3tog";
                case KFB:
                    return "kfb";
                case YO:
                    return "yo";
                case BIND:
                    return "bind";
                default:
                    return "cast1";
            }
        }
    }

    /** The bytes that were fed and not yet worked. */
    private static final class Tape {
        static final int MOST_BYTES = 200;
        static final int END = -1;

        private final int[] bytes = new int[MOST_BYTES];
        private int length;

        int length() {
            return length;
        }

        boolean hasRoomFor(int n) {
            return n <= MOST_BYTES - length;
        }

        void add(long packed, int n) {
            for (int i = n - 1; i >= 0 && length < MOST_BYTES; i--) {
                bytes[length] = (int) (packed >>> (8 * i)) & 255;
                length++;
            }
        }

        void clear() {
            length = 0;
        }

        int byteAt(int place) {
            return place >= 0 && place < length ? bytes[place] : END;
        }
    }

    /**
     * A right text as a list of steps: stitches with their counts, and the brackets, each of which
     * knows its partner.
     */
    private static final class Plan {
        static final int STITCHES = 0;
        static final int OPEN_GROUP = 1;
        static final int OPEN_REPEAT = 2;
        static final int CLOSE = 3;

        // A step has at least one byte of the text for itself.
        private static final int MOST_STEPS = Tape.MOST_BYTES;

        private final int[] kinds = new int[MOST_STEPS];
        private final int[] places = new int[MOST_STEPS];
        private final int[] counts = new int[MOST_STEPS];
        // The stitch of STITCHES, the other bracket's step of the brackets.
        private final int[] links = new int[MOST_STEPS];
        // Loops that one run through a bracket's row takes: long, for counts within counts are many.
        private final long[] takes = new long[MOST_STEPS];
        private int size;

        void clear() {
            size = 0;
        }

        int size() {
            return size;
        }

        void addStitches(int stitch, int count, int place) {
            add(STITCHES, stitch, count, place);
        }

        void addOpen(int kind, int place) {
            add(kind, 0, 0, place);
        }

        /** What stands behind the bracket is known only here, but is asked for where it opens. */
        void addClose(int open, int count, int place, long takesOfRow) {
            if (open >= 0 && open < size) {
                links[open] = size;
                counts[open] = count;
                takes[open] = takesOfRow;
            }
            add(CLOSE, open, 0, place);
        }

        private void add(int kind, int link, int count, int place) {
            if (size < MOST_STEPS) {
                kinds[size] = kind;
                links[size] = link;
                counts[size] = count;
                places[size] = place;
                takes[size] = 0;
                size++;
            }
        }

        int kind(int step) {
            return has(step) ? kinds[step] : CLOSE;
        }

        int link(int step) {
            return has(step) ? links[step] : 0;
        }

        int count(int step) {
            return has(step) ? counts[step] : 0;
        }

        int place(int step) {
            return has(step) ? places[step] : 0;
        }

        long takes(int step) {
            return has(step) ? takes[step] : 0;
        }

        private boolean has(int step) {
            return step >= 0 && step < size;
        }
    }

    /** Reads the tape's text into a plan, up to the first byte with which it can't be right. */
    private static final class RowReader {
        static final int MOST_DEPTH = 4;

        private final Tape tape;
        private final Plan plan;
        // The brackets that are open, each with the loops that its row takes; below them the text.
        private final int[] openSteps = new int[MOST_DEPTH + 1];
        private final long[] takes = new long[MOST_DEPTH + 1];
        private int depth;
        private int at;
        private int fault;
        private boolean itemIsDue;
        private boolean ended;

        RowReader(Tape tape, Plan plan) {
            this.tape = tape;
            this.plan = plan;
        }

        /** Answers the fault as work does, or Fault.NONE: then the plan is what the text says. */
        int readTape() {
            plan.clear();
            depth = 0;
            takes[0] = 0;
            at = 0;
            fault = Fault.NONE;
            itemIsDue = true;
            ended = false;
            // Each turn but the last reads at least one byte.
            for (int turn = 0; turn <= tape.length() && !ended && isRight(); turn++) {
                skipBlanks();
                if (itemIsDue) {
                    readItem();
                } else {
                    readSign();
                }
            }
            return fault;
        }

        private boolean isRight() {
            return fault == Fault.NONE;
        }

        private int next() {
            return tape.byteAt(at);
        }

        private void fail(int kind) {
            if (isRight()) {
                fault = Fault.answer(kind, at);
            }
        }

        private void skipBlanks() {
            while (at < tape.length() && next() == ' ') {
                at++;
            }
        }

        private void readItem() {
            int place = at;
            switch (next()) {
                case 'k':
                    readKnit(place);
                    break;
                case 'p':
                    readNamed("p", Stitch.P, place);
                    break;
                case 's':
                    readSlipOrSsk(place);
                    break;
                case 'y':
                    readNamed("yo", Stitch.YO, place);
                    break;
                case 'b':
                    readNamed("bind", Stitch.BIND, place);
                    break;
                case 'c':
                    readCastOrCable(place);
                    break;
                case '(':
                    openBracket(Plan.OPEN_GROUP, place);
                    break;
                case 'r':
                    readRepeat(place);
                    break;
                default:
                    fail(Fault.WRONG_TEXT);
                    break;
            }
        }

        /** k2 and k3 are counts of k unless a t shows that they begin a longer name. */
        private void readKnit(int place) {
            int second = tape.byteAt(at + 1);
            boolean together = tape.byteAt(at + 2) == 't';
            if (second == 'f') {
                readSingle("kfb", Stitch.KFB, place);
            } else if (second == '2' && together) {
                readSingle("k2tog", Stitch.K2TOG, place);
            } else if (second == '3' && together) {
                readSingle("k3tog", Stitch.K3TOG, place);
            } else {
                readNamed("k", Stitch.K, place);
            }
        }

        private void readSlipOrSsk(int place) {
            if (tape.byteAt(at + 1) == 's') {
                readSingle("ssk", Stitch.SSK, place);
            } else {
                readNamed("sl", Stitch.SL, place);
            }
        }

        private void readCastOrCable(int place) {
            boolean isFirstItem = plan.size() == 0;
            if (isFirstItem && tape.byteAt(at + 1) == 'a') {
                readWord("cast");
                addStitches(Stitch.CAST, readNumber(1), place);
            } else {
                readCable(place);
            }
        }

        private void readCable(int place) {
            readWord("c");
            int a = readCableDigit();
            readWord("/");
            int b = readCableDigit();
            if (next() == 'f') {
                readWord("f");
                addStitches(Stitch.cable(a, b, Stitch.CABLE_FRONT), 1, place);
            } else {
                readWord("b");
                addStitches(Stitch.cable(a, b, Stitch.CABLE_BEHIND), 1, place);
            }
        }

        private int readCableDigit() {
            int digit = next() - '0';
            if (!isRight() || digit < 1 || digit > 5) {
                fail(Fault.WRONG_TEXT);
                return 1;
            }
            at++;
            return digit;
        }

        private void readSingle(String name, int stitch, int place) {
            readWord(name);
            addStitches(stitch, 1, place);
        }

        private void readNamed(String name, int stitch, int place) {
            readWord(name);
            int count = isDigit(next()) ? readNumber(1) : 1;
            addStitches(stitch, count, place);
        }

        private void addStitches(int stitch, int count, int place) {
            if (isRight()) {
                plan.addStitches(stitch, count, place);
                takes[depth] += (long) count * Stitch.loopsTaken(stitch);
                itemIsDue = false;
            }
        }

        private void readRepeat(int place) {
            if (depth > 0) {
                fail(Fault.WRONG_TEXT);
                return;
            }
            readWord("rep");
            skipBlanks();
            if (next() == '(') {
                openBracket(Plan.OPEN_REPEAT, place);
            } else {
                fail(Fault.WRONG_TEXT);
            }
        }

        private void openBracket(int kind, int place) {
            if (depth >= MOST_DEPTH) {
                fail(Fault.TOO_DEEP);
            }
            if (isRight()) {
                at++;
                depth++;
                openSteps[depth] = plan.size();
                takes[depth] = 0;
                plan.addOpen(kind, place);
            }
        }

        /** What may stand behind an item: a comma, the end of its bracket, the end of the text. */
        private void readSign() {
            if (next() == ',') {
                at++;
                itemIsDue = true;
            } else if (next() == ')' && depth > 0) {
                closeBracket();
            } else if (next() == Tape.END && depth == 0) {
                ended = true;
            } else {
                fail(Fault.WRONG_TEXT);
            }
        }

        private void closeBracket() {
            int place = at;
            int open = openSteps[depth];
            long takesOfRow = takes[depth];
            at++;
            skipBlanks();
            if (plan.kind(open) == Plan.OPEN_REPEAT) {
                int told = readToLast();
                plan.addClose(open, told, place, takesOfRow);
                depth--;
            } else {
                readWord("x");
                int count = readNumber(2);
                plan.addClose(open, count, place, takesOfRow);
                depth--;
                takes[depth] += count * takesOfRow;
            }
        }

        private int readToLast() {
            readWord("to");
            skipBlanks();
            readWord("last");
            skipBlanks();
            return readNumber(0);
        }

        private void readWord(String word) {
            for (int i = 0; i < word.length() && isRight(); i++) {
                if (next() == word.charAt(i)) {
                    at++;
                } else {
                    fail(Fault.WRONG_TEXT);
                }
            }
        }

        /**
         * A number of one or two digits, the least being 0, 1 or 2. A third digit, or one behind a
         * 0, is left for readSign to refuse.
         */
        private int readNumber(int least) {
            int first = next() - '0';
            if (!isRight() || !isDigit(next()) || first == 0 && least > 0) {
                fail(Fault.WRONG_TEXT);
                return least;
            }
            at++;
            if (first == 0) {
                return 0;
            }
            if (isDigit(next())) {
                int number = 10 * first + next() - '0';
                at++;
                return number;
            }
            if (first < least) {
                fail(Fault.WRONG_TEXT);
            }
            return first;
        }

        private static boolean isDigit(int sign) {
            return sign >= '0' && sign <= '9';
        }
    }

    /** Works a plan's steps on a fabric. */
    private static final class Knitter {
        // Far above what can be needed: each of some 640 stitches has at most eight brackets round it.
        private static final int MOST_TURNS = 1000000;

        private final Plan plan;
        private final Fabric fabric;
        private final long[] runsLeft = new long[RowReader.MOST_DEPTH + 1];
        private int depth;
        private int fault;

        Knitter(Plan plan, Fabric fabric) {
            this.plan = plan;
            this.fabric = fabric;
        }

        /** Answers what work answers; a row with a fault leaves the fabric as it was. */
        int knitPlan(int textLength) {
            depth = 0;
            fault = Fault.NONE;
            fabric.startRow();
            int step = 0;
            for (int turn = 0; turn < MOST_TURNS && step < plan.size() && fault == Fault.NONE; turn++) {
                step = knitStep(step);
            }
            if (fault == Fault.NONE) {
                note(fabric.faultOfRow(), textLength);
            }
            if (fault != Fault.NONE) {
                return fault;
            }
            fabric.keepRow();
            return fabric.liveCount();
        }

        private void note(int kind, int place) {
            if (kind != Fault.NONE) {
                fault = Fault.answer(kind, place);
            }
        }

        /** Answers the step that comes next. */
        private int knitStep(int step) {
            switch (plan.kind(step)) {
                case Plan.STITCHES:
                    knitStitches(step);
                    return step + 1;
                case Plan.OPEN_GROUP:
                    return enter(step, plan.count(step));
                case Plan.OPEN_REPEAT:
                    return enter(step, runsOfRepeat(step));
                default:
                    return leave(step);
            }
        }

        private void knitStitches(int step) {
            int stitch = plan.link(step);
            int count = plan.count(step);
            for (int i = 0; i < count && fault == Fault.NONE; i++) {
                note(fabric.faultOfStitch(stitch), plan.place(step));
                if (fault == Fault.NONE) {
                    fabric.addStitch(stitch);
                }
            }
        }

        private long runsOfRepeat(int step) {
            long takes = plan.takes(step);
            long due = fabric.leftCount() - plan.count(step);
            if (takes <= 0 || due < 0 || due % takes != 0) {
                note(Fault.NO_REPEAT, plan.place(step));
                return 0;
            }
            return due / takes;
        }

        private int enter(int step, long runs) {
            if (runs <= 0 || depth >= RowReader.MOST_DEPTH) {
                return plan.link(step) + 1;
            }
            depth++;
            runsLeft[depth] = runs;
            return step + 1;
        }

        private int leave(int step) {
            runsLeft[depth]--;
            if (runsLeft[depth] > 0) {
                return plan.link(step) + 1;
            }
            depth = Math.max(depth - 1, 0);
            return step + 1;
        }
    }

    /**
     * The loops, the rows and their stitches. A row takes all that is on the needle, so the needle
     * has just what the last row made, and a loop died in the row behind the one that it was born in.
     */
    private static final class Fabric {
        static final int MOST_LIVE = 40;
        private static final int MOST_ROWS = 30;
        private static final int MOST_LOOPS = 600;
        // Every stitch makes a loop, but for the binds, which take one each.
        private static final int MOST_STITCHES = 2 * MOST_LOOPS;

        // Row r made the loops from firstLoops[r] to below firstLoops[r + 1]; stitches likewise.
        private final int[] firstLoops = new int[MOST_ROWS + 2];
        private final int[] firstStitches = new int[MOST_ROWS + 2];
        private final int[] stitches = new int[MOST_STITCHES];
        private final int[] parentCounts = new int[MOST_LOOPS];
        // The others follow it in the order of the needle.
        private final int[] firstParents = new int[MOST_LOOPS];
        private boolean round;
        private int rowCount;

        private int needleCount;
        private int needleStart;
        // From a place of the needle to the next, loop numbers go up (round) or down (turned).
        private int needleStep;

        // The row in work stands behind all that is kept, so that nothing has to be undone.
        private int taken;
        private int loopEnd;
        private int stitchEnd;

        void castOn(int loops, boolean isRound) {
            round = isRound;
            rowCount = 0;
            firstLoops[0] = 0;
            firstStitches[0] = 0;
            firstStitches[1] = 0;
            loopEnd = 0;
            for (int i = 0; i < loops; i++) {
                makeLoop(0, 0);
            }
            firstLoops[1] = loopEnd;
            fillNeedle();
        }

        int rowCount() {
            return rowCount;
        }

        void takeBack(int count) {
            rowCount = Math.max(rowCount - count, 0);
            fillNeedle();
        }

        private void fillNeedle() {
            int first = firstLoops[rowCount];
            int end = firstLoops[rowCount + 1];
            needleCount = end - first;
            needleStart = round ? first : end - 1;
            needleStep = round ? 1 : -1;
        }

        void startRow() {
            taken = 0;
            loopEnd = loopCount();
            stitchEnd = firstStitches[rowCount + 1];
        }

        int leftCount() {
            return needleCount - taken;
        }

        private int madeSoFar() {
            return loopEnd - loopCount();
        }

        int faultOfStitch(int stitch) {
            if (Stitch.loopsTaken(stitch) > leftCount()) {
                return Fault.TOO_FEW_LEFT;
            }
            if (stitch == Stitch.BIND && leftCount() + madeSoFar() == 1) {
                return Fault.BINDS_ONLY_LOOP;
            }
            if (loopEnd + Stitch.loopsMade(stitch) > MOST_LOOPS) {
                return Fault.TOO_MANY_LOOPS;
            }
            return Fault.NONE;
        }

        void addStitch(int stitch) {
            if (Stitch.isCable(stitch)) {
                makeCableLoops(Stitch.cableA(stitch), Stitch.cableB(stitch));
            } else {
                int makes = Stitch.loopsMade(stitch);
                for (int i = 0; i < makes; i++) {
                    makeLoop(taken, Stitch.loopsTaken(stitch));
                }
            }
            taken += Stitch.loopsTaken(stitch);
            if (stitchEnd < MOST_STITCHES) {
                stitches[stitchEnd] = stitch;
                stitchEnd++;
            }
        }

        private void makeCableLoops(int a, int b) {
            for (int i = 0; i < b; i++) {
                makeLoop(taken + a + i, 1);
            }
            for (int i = 0; i < a; i++) {
                makeLoop(taken + i, 1);
            }
        }

        private void makeLoop(int parentPlace, int parents) {
            if (loopEnd < MOST_LOOPS) {
                firstParents[loopEnd] = parents > 0 ? needleLoop(parentPlace) : -1;
                parentCounts[loopEnd] = parents;
                loopEnd++;
            }
        }

        int faultOfRow() {
            if (leftCount() > 0) {
                return Fault.LEFT_OVER;
            }
            if (madeSoFar() > MOST_LIVE) {
                return Fault.TOO_MANY_LIVE;
            }
            return rowCount >= MOST_ROWS ? Fault.TOO_MANY_ROWS : Fault.NONE;
        }

        void keepRow() {
            if (rowCount < MOST_ROWS) {
                rowCount++;
                firstLoops[rowCount + 1] = loopEnd;
                firstStitches[rowCount + 1] = stitchEnd;
                fillNeedle();
            }
        }

        int loopCount() {
            return firstLoops[rowCount + 1];
        }

        int liveCount() {
            return needleCount;
        }

        boolean hasRow(int row) {
            return row >= 0 && row <= rowCount;
        }

        boolean hasLoop(int loop) {
            return loop >= 0 && loop < loopCount();
        }

        int madeIn(int row) {
            return hasRow(row) ? firstLoops[row + 1] - firstLoops[row] : 0;
        }

        /** The loop at a place of the needle, -1 for none. */
        int needleLoop(int place) {
            return place >= 0 && place < needleCount ? needleStart + place * needleStep : -1;
        }

        int bornIn(int loop) {
            for (int row = 0; row < rowCount; row++) {
                if (loop < firstLoops[row + 1]) {
                    return row;
                }
            }
            return rowCount;
        }

        int diedIn(int loop) {
            int born = bornIn(loop);
            return born < rowCount ? born + 1 : 0;
        }

        int parentCount(int loop) {
            return hasLoop(loop) ? parentCounts[loop] : 0;
        }

        int parent(int loop, int j) {
            return hasLoop(loop) ? firstParents[loop] + j * needleStep : -1;
        }

        /** Each parent is of the row before, so the way down has no more loops than there are rows. */
        int ladderLength(int top) {
            int length = 1;
            int loop = top;
            for (int row = 0; row < rowCount && parentCount(loop) > 0; row++) {
                loop = parent(loop, 0);
                length++;
            }
            return length;
        }

        int stitchCount(int row) {
            return hasRow(row) ? firstStitches[row + 1] - firstStitches[row] : 0;
        }

        int stitchAt(int row, int c) {
            if (c < 0 || c >= stitchCount(row)) {
                return Stitch.K;
            }
            return stitches[firstStitches[row] + c];
        }

        int stitchSeen(int row, int c) {
            boolean isBack = !round && row % 2 == 0;
            if (isBack) {
                return Stitch.seenFromBehind(stitchAt(row, stitchCount(row) - 1 - c));
            }
            return stitchAt(row, c);
        }

        int crossings(int row) {
            int pairs = 0;
            int count = stitchCount(row);
            for (int c = 0; c < count; c++) {
                int stitch = stitchAt(row, c);
                if (Stitch.isCable(stitch)) {
                    pairs += Stitch.cableA(stitch) * Stitch.cableB(stitch);
                }
            }
            return pairs;
        }

        int boundIn(int firstRow, int lastRow) {
            if (!hasRow(firstRow) || !hasRow(lastRow)) {
                return 0;
            }
            int bound = 0;
            for (int i = firstStitches[firstRow]; i < firstStitches[lastRow + 1]; i++) {
                if (stitches[i] == Stitch.BIND) {
                    bound++;
                }
            }
            return bound;
        }
    }

    /**
     * A row told in the fewest words, and the text of it. A part of the row is told as pieces with
     * commas between them, a piece being a stitch or a group: for were the first part of a best split
     * split itself, that earlier split would take no more words, and come first.
     */
    private static final class Shortest {
        private static final int MOST_GROUPS = 4;
        // 40 stitches that take loops, and 40 that take none but make one each.
        private static final int MOST_STITCHES = 2 * Fabric.MOST_LIVE;
        private static final int MOST_PERIOD = MOST_STITCHES / 2;
        // A word with its comma has at most 6 bytes, and there are no more words than stitches.
        private static final int MOST_BYTES = 6 * MOST_STITCHES;
        // No group: more words than any part of a row can need.
        private static final int NEVER = 1000;

        // Where the table's words of the parts within 0 .. 3 groups begin. A group tells its part at
        // least twice, so within one more, parts are half as long at the most; within none only what
        // is left of the row is asked for; within 4 there are but bare names.
        private static final int[] OFFSETS = {0, 80, 3280, 4880};
        private static final int TABLE_SIZE = 5680;

        private final int[] table = new int[TABLE_SIZE];
        // Of each start and period, how many stitches are the same as those a period further on.
        private final int[] sames = new int[MOST_STITCHES * MOST_PERIOD];
        private final int[] stitches = new int[MOST_STITCHES];
        private final int[] text = new int[MOST_BYTES];
        private int count;
        private int length;

        void forget() {
            length = 0;
        }

        int byteAt(int place) {
            return place >= 0 && place < length ? text[place] : -1;
        }

        int tellRow(Fabric fabric, int row) {
            count = Math.min(fabric.stitchCount(row), MOST_STITCHES);
            for (int i = 0; i < count; i++) {
                stitches[i] = fabric.stitchAt(row, i);
            }
            for (int period = 1; period <= count / 2; period++) {
                countSames(period);
            }
            for (int groups = MOST_GROUPS - 1; groups >= 1; groups--) {
                countWordsWithin(groups);
            }
            countWords(count, count, 0);
            length = 0;
            tellPart(0, count, 0);
            return words(0, count, 0);
        }

        private void countSames(int period) {
            int same = 0;
            for (int start = count - 1; start >= 0; start--) {
                boolean isSame = start + period < count && stitches[start] == stitches[start + period];
                same = isSame ? same + 1 : 0;
                sames[start * MOST_PERIOD + period - 1] = same;
            }
        }

        /** How often the first q stitches stand one behind the other from the start on. */
        private int timesInRow(int start, int q) {
            if (start < 0 || start >= count || q < 1 || q > count / 2) {
                return 1;
            }
            return 1 + sames[start * MOST_PERIOD + q - 1] / q;
        }

        /** Of the parts with the same end, those as long as one that comes again are asked for. */
        private void countWordsWithin(int groups) {
            for (int end = 1; end < count; end++) {
                int longest = Math.min(end, count >> groups);
                while (longest > 0 && timesInRow(end - longest, longest) < 2) {
                    longest--;
                }
                countWords(end, longest, groups);
            }
        }

        private void countWords(int end, int longest, int groups) {
            for (int n = 1; n <= longest; n++) {
                int cell = cellOf(end - n, n, groups);
                if (cell >= 0) {
                    table[cell] = fewestWords(end - n, n, groups);
                }
            }
        }

        private static int cellOf(int start, int n, int groups) {
            if (groups < 0 || groups >= MOST_GROUPS || n < 1 || n > MOST_STITCHES >> groups) {
                return -1;
            }
            if (start < 0 || start + n > MOST_STITCHES) {
                return -1;
            }
            return groups == 0 ? start : OFFSETS[groups] + start * (MOST_STITCHES >> groups) + n - 1;
        }

        private int words(int start, int n, int groups) {
            int cell = cellOf(start, n, groups);
            return cell < 0 ? n : table[cell];
        }

        private int fewestWords(int start, int n, int groups) {
            int fewest = 1 + words(start + 1, n - 1, groups);
            for (int q = 1; q <= n / 2; q++) {
                int most = Math.min(timesInRow(start, q), n / q);
                int group = most < 2 ? NEVER : 1 + words(start, q, groups + 1);
                for (int times = 2; times <= most; times++) {
                    fewest = Math.min(fewest, group + words(start + q * times, n - q * times, groups));
                }
            }
            return fewest;
        }

        /** How many stitches stand in the brackets when the part is told as one group; 0: it can't be. */
        private int bestGroup(int start, int n, int groups) {
            int best = 0;
            int fewest = NEVER;
            for (int q = 1; q <= n / 2 && groups < MOST_GROUPS; q++) {
                boolean isGroup = n % q == 0 && timesInRow(start, q) >= n / q;
                int inner = isGroup ? words(start, q, groups + 1) : NEVER;
                if (inner < fewest) {
                    best = q;
                    fewest = inner;
                }
            }
            return best;
        }

        private int pieceWords(int start, int n, int groups) {
            if (n == 1) {
                return 1;
            }
            int q = bestGroup(start, n, groups);
            return q == 0 ? NEVER : 1 + words(start, q, groups + 1);
        }

        private int firstPiece(int start, int n, int groups) {
            int fewest = words(start, n, groups);
            if (pieceWords(start, n, groups) == fewest) {
                return n;
            }
            for (int q = 1; q < n; q++) {
                if (pieceWords(start, q, groups) + words(start + q, n - q, groups) == fewest) {
                    return q;
                }
            }
            return n;
        }

        private void tellPart(int start, int n, int groups) {
            int at = start;
            int end = start + n;
            for (int turn = 0; turn < n && at < end; turn++) {
                if (at > start) {
                    put(',');
                }
                int piece = firstPiece(at, end - at, groups);
                tellPiece(at, piece, groups);
                at += piece;
            }
        }

        private void tellPiece(int start, int n, int groups) {
            int q = bestGroup(start, n, groups);
            if (q < 1 || groups >= MOST_GROUPS) {
                tellStitch(stitches[start]);
                return;
            }
            put('(');
            tellPart(start, q, groups + 1);
            put(')');
            put('x');
            putNumber(n / q);
        }

        private void tellStitch(int stitch) {
            if (Stitch.isCable(stitch)) {
                put('c');
                putNumber(Stitch.cableA(stitch));
                put('/');
                putNumber(Stitch.cableB(stitch));
                put(Stitch.isBehind(stitch) ? 'b' : 'f');
                return;
            }
            String name = Stitch.nameOf(stitch);
            for (int i = 0; i < name.length(); i++) {
                put(name.charAt(i));
            }
        }

        /** Numbers below 100. */
        private void putNumber(int number) {
            if (number >= 10) {
                put('0' + number / 10);
            }
            put('0' + number % 10);
        }

        private void put(int sign) {
            if (length < MOST_BYTES) {
                text[length] = sign;
                length++;
            }
        }
    }
}
