/**
 * A calculator for ordinals below epsilon zero, and for the games that run down them.
 * What each call does is said by the promise of its name in the document.
 */
public final class OrdinalDesk {
    public static final int NONE = -1;

    private static final int SLOTS = 8;
    private static final int MOST_RECORDS = 12;
    private static final int MOST_ON_PILE = 12;
    private static final int MOST_TERMS = 20;
    private static final int TERM_CELLS = 3;
    private static final int MOST_CELLS = MOST_TERMS * TERM_CELLS;
    private static final int MOST_COEFFICIENT = 1000000;
    private static final int MOST_FACTORS = 20;
    private static final int MOST_VALUE = 1000000000;
    private static final int MOST_VALUE_BASE = 1000;
    private static final int MOST_START_BASE = 1000;
    private static final int MOST_COPIES = 1000;
    private static final int MOST_FAST_NUMBER = 1000;
    private static final int MOST_FAST_RESULT = 1000000;
    private static final int MOST_FUEL = 2000;
    private static final int WAY_BASE = 8;
    // 2 to the power of 30 is beyond the greatest number, in whatever base.
    private static final int MOST_DIGITS = 30;
    // A step makes far fewer members: nearly each of them makes the ordinal larger.
    private static final int MOST_MEMBERS = 1000000;

    private static final int SUM = 0;
    private static final int PRODUCT = 1;
    private static final int POWER = 2;
    private static final int NATURAL_SUM = 3;
    private static final int NATURAL_PRODUCT = 4;
    private static final int DIFFERENCE = 5;
    private static final int QUOTIENT = 6;
    private static final int REMAINDER = 7;

    private static final int IS_ZERO = 0;
    private static final int IS_SUCCESSOR = 1;
    private static final int IS_LIMIT = 2;

    private final Row[] slots = new Row[SLOTS];
    private final Row[] records = new Row[MOST_RECORDS];
    private int recorded = 0;
    // What a call makes is made here first, so that a call that throws changes no slot.
    private final Row result = new Row();
    private final Row spare = new Row();
    private final Arithmetic arithmetic = new Arithmetic();
    private final Division division = new Division();
    private final Descent descent = new Descent();
    private final Hydra hydra = new Hydra();
    private final Pile pile = new Pile();
    private final Numbers numbers = new Numbers();

    public OrdinalDesk() {
        for (int i = 0; i < SLOTS; i++) {
            slots[i] = new Row();
        }
        for (int i = 0; i < MOST_RECORDS; i++) {
            records[i] = new Row();
        }
    }

    public void finite(int n, int to) throws IndexOutOfBoundsException, IllegalArgumentException {
        Row target = slot(to);
        refuseUnless(isWithin(n, 0, MOST_COEFFICIENT));
        target.becomeNumber(n);
    }

    public void raise(int e, int c, int to)
            throws IndexOutOfBoundsException, IllegalArgumentException, IllegalStateException {
        Row exponent = slot(e);
        Row target = slot(to);
        refuseUnless(isWithin(c, 1, MOST_COEFFICIENT));
        result.becomeTerm(exponent, c);
        target.become(result);
    }

    public int op(int kind, int a, int b, int to)
            throws IndexOutOfBoundsException, IllegalArgumentException, IllegalStateException {
        Row left = slot(a);
        Row right = slot(b);
        Row target = slot(to);
        refuseUnless(isWithin(kind, SUM, REMAINDER));
        refuseUnless(kind != DIFFERENCE || Row.order(left, right) >= 0);
        refuseUnless((kind != QUOTIENT && kind != REMAINDER) || !right.isZero());
        switch (kind) {
            case SUM -> Arithmetic.makeSum(left, right, result);
            case PRODUCT -> arithmetic.makeProduct(left, right, result);
            case POWER -> arithmetic.makePower(left, right, result);
            case NATURAL_SUM -> Arithmetic.makeNaturalSum(left, right, result);
            case NATURAL_PRODUCT -> arithmetic.makeNaturalProduct(left, right, result);
            case DIFFERENCE -> Division.makeDifference(left, right, result);
            case QUOTIENT -> division.divide(left, right, result, spare);
            default -> division.divide(left, right, spare, result);
        }
        return keepResult(target);
    }

    public int member(int a, int n, int to)
            throws IndexOutOfBoundsException, IllegalArgumentException, IllegalStateException {
        Row from = slot(a);
        Row target = slot(to);
        refuseUnless(from.sort() == IS_LIMIT);
        refuseUnless(isWithin(n, 0, MOST_COEFFICIENT));
        Descent.makeMember(from, n, result);
        return keepResult(target);
    }

    public int step(int a, int base, int to)
            throws IndexOutOfBoundsException, IllegalArgumentException, IllegalStateException {
        Row from = slot(a);
        Row target = slot(to);
        refuseUnless(!from.isZero());
        refuseUnless(isWithin(base, 2, MOST_COEFFICIENT));
        descent.stepDown(from, base, result);
        return keepResult(target);
    }

    public int chop(int a, int way, int copies, int to)
            throws IndexOutOfBoundsException, IllegalArgumentException, IllegalStateException {
        Row from = slot(a);
        Row target = slot(to);
        refuseUnless(isWithin(copies, 0, MOST_COPIES));
        refuseUnless(way >= 0 && hydra.findsHead(from, way));
        hydra.cutHead(from, copies, result);
        return keepResult(target);
    }

    public int start(int n, int base, int to)
            throws IndexOutOfBoundsException, IllegalArgumentException, IllegalStateException {
        Row target = slot(to);
        refuseUnless(isWithin(n, 0, MOST_VALUE));
        refuseUnless(isWithin(base, 2, MOST_START_BASE));
        Numbers.makeInBase(n, base, result);
        return keepResult(target);
    }

    public int compare(int a, int b) throws IndexOutOfBoundsException {
        return Row.order(slot(a), slot(b));
    }

    public int kind(int a) throws IndexOutOfBoundsException {
        return slot(a).sort();
    }

    public int size(int a) throws IndexOutOfBoundsException {
        return slot(a).termsInAll();
    }

    public int at(int a, int i) throws IndexOutOfBoundsException {
        Row from = slot(a);
        return i < 0 || i >= from.length ? NONE : from.cells[i];
    }

    public int value(int a, int n) throws IndexOutOfBoundsException, IllegalArgumentException {
        Row from = slot(a);
        refuseUnless(isWithin(n, 0, MOST_VALUE_BASE));
        long worth = numbers.worth(from, n);
        return worth > MOST_VALUE ? NONE : (int) worth;
    }

    public int fast(int a, int n, int fuel)
            throws IndexOutOfBoundsException, IllegalArgumentException, IllegalStateException {
        Row from = slot(a);
        refuseUnless(isWithin(n, 0, MOST_FAST_NUMBER));
        refuseUnless(isWithin(fuel, 0, MOST_FUEL));
        return pile.workOff(from, n, fuel);
    }

    public int record(int a) throws IndexOutOfBoundsException, IllegalStateException {
        Row from = slot(a);
        if (recorded >= MOST_RECORDS) {
            throw new IllegalStateException("all records are in use");
        }
        records[recorded].become(from);
        recorded++;
        return recorded;
    }

    public int rise() {
        for (int i = 1; i < recorded; i++) {
            if (Row.order(records[i], records[i - 1]) >= 0) {
                return i;
            }
        }
        return NONE;
    }

    public void replace(int i, int a) throws IndexOutOfBoundsException {
        recordNumber(i).become(slot(a));
    }

    public void recall(int i, int to) throws IndexOutOfBoundsException {
        slot(to).become(recordNumber(i));
    }

    public int wipe() {
        int before = recorded;
        recorded = 0;
        return before;
    }

    private Row slot(int i) {
        if (i < 0 || i >= SLOTS) {
            throw new IndexOutOfBoundsException("there is no such slot");
        }
        return slots[i];
    }

    private Row recordNumber(int i) {
        if (i < 0 || i >= recorded) {
            throw new IndexOutOfBoundsException("there is no such record");
        }
        return records[i];
    }

    private static boolean isWithin(int n, int least, int most) {
        return n >= least && n <= most;
    }

    private static void refuseUnless(boolean fine) {
        if (!fine) {
            throw new IllegalArgumentException("an argument does not fit the call");
        }
    }

    private int keepResult(Row target) {
        target.become(result);
        return target.termsInAll();
    }

    /**
     * An ordinal, held as its writing: so the order of two ordinals is that of the first cells
     * in which their rows differ, and each term takes three cells, wherever it stands.
     * A part of a row is told by where it begins and where it ends (the cell behind it);
     * an exponent is such a part, from 1 behind the term's beginning to 2 before its end.
     */
    private static final class Row {
        final int[] cells = new int[MOST_CELLS];
        int length = 0;

        boolean isZero() {
            return length == 0;
        }

        /** One term at most takes this little, and its exponent is then 0. */
        boolean isFinite() {
            return length <= TERM_CELLS;
        }

        boolean isOne() {
            return length == TERM_CELLS && cells[2] == 1;
        }

        int termsInAll() {
            return length / TERM_CELLS;
        }

        int sort() {
            if (length == 0) {
                return IS_ZERO;
            }
            return endsInNumber(0, length) ? IS_SUCCESSOR : IS_LIMIT;
        }

        /** Whether this part is a successor. */
        boolean endsInNumber(int from, int to) {
            return from < to && lastTerm(from, to) == to - TERM_CELLS;
        }

        int finitePart() {
            return endsInNumber(0, length) ? coefficient(length) : 0;
        }

        /** The coefficient of the term that ends there. */
        int coefficient(int end) {
            return end < 1 || end > length ? 0 : cells[end - 1];
        }

        int termEnd(int start) {
            int open = 0;
            int i = start;
            while (i < length) {
                if (cells[i] == 1) {
                    open++;
                    i++;
                } else {
                    open--;
                    i += 2;
                    if (open <= 0) {
                        return i;
                    }
                }
            }
            return length;
        }

        int lastTerm(int from, int to) {
            int last = from;
            int open = 0;
            int i = from;
            while (i < to) {
                if (cells[i] == 1) {
                    if (open == 0) {
                        last = i;
                    }
                    open++;
                    i++;
                } else {
                    open--;
                    i += 2;
                }
            }
            return last;
        }

        /** Where the term of that number begins in this part; NONE when there is none. */
        int termNumber(int number, int from, int to) {
            int start = from;
            for (int i = 0; i < number && start < to; i++) {
                start = termEnd(start);
            }
            return start < to ? start : NONE;
        }

        void clear() {
            length = 0;
        }

        void become(Row other) {
            becomePart(other, 0, other.length);
        }

        void becomePart(Row other, int from, int to) {
            length = 0;
            putPart(other, from, to);
        }

        void becomeExponent(Row other, int start, int end) {
            becomePart(other, start + 1, end - 2);
        }

        void becomeNumber(int n) {
            length = 0;
            putNumber(n);
        }

        void becomeTerm(Row exponent, long coefficient) {
            length = 0;
            putTerm(exponent, coefficient);
        }

        void putPart(Row other, int from, int to) {
            if (from < 0 || from >= to || to > other.length) {
                return;
            }
            if (length + to - from > MOST_CELLS) {
                throw new IllegalStateException("there is no room for so many terms");
            }
            System.arraycopy(other.cells, from, cells, length, to - from);
            length += to - from;
        }

        void putCell(int cell) {
            if (length >= MOST_CELLS) {
                throw new IllegalStateException("there is no room for so many terms");
            }
            cells[length] = cell;
            length++;
        }

        void openTerm() {
            putCell(1);
        }

        /** Ends an exponent and, with the coefficient, its term. */
        void closeTerm(long coefficient) {
            putCell(0);
            putCoefficient(coefficient);
        }

        void putCoefficient(long coefficient) {
            if (coefficient > MOST_COEFFICIENT) {
                throw new IllegalStateException("there is no room for so great a coefficient");
            }
            putCell((int) coefficient);
        }

        void putTerm(Row exponent, long coefficient) {
            openTerm();
            putPart(exponent, 0, exponent.length);
            closeTerm(coefficient);
        }

        void putNumber(long n) {
            if (n > 0) {
                openTerm();
                closeTerm(n);
            }
        }

        /** Puts this term of another row here, with a coefficient of its own, or nothing for 0. */
        void putTermAgain(Row other, int start, int end, long coefficient) {
            if (coefficient > 0) {
                putPart(other, start, end - 1);
                putCoefficient(coefficient);
            }
        }

        static int order(Row a, Row b) {
            return orderOfParts(a, 0, a.length, b, 0, b.length);
        }

        static int orderOfExponents(Row a, int aStart, int aEnd, Row b, int bStart, int bEnd) {
            return orderOfParts(a, aStart + 1, aEnd - 2, b, bStart + 1, bEnd - 2);
        }

        static int orderOfParts(Row a, int aFrom, int aTo, Row b, int bFrom, int bTo) {
            int shared = Math.min(aTo - aFrom, bTo - bFrom);
            for (int i = 0; i < shared; i++) {
                int order = Integer.compare(a.cells[aFrom + i], b.cells[bFrom + i]);
                if (order != 0) {
                    return order;
                }
            }
            return Integer.compare(aTo - aFrom, bTo - bFrom);
        }
    }

    /**
     * Sums, products and powers, the natural ones too. All that is made on the way, but for
     * the products in a power, stands in the result as well: so a row that has no room for it
     * may throw at once.
     */
    private static final class Arithmetic {
        private final Row productLead = new Row();
        private final Row productExponent = new Row();
        private final Row productJoined = new Row();
        private final Row powerLimit = new Row();
        private final Row powerExponent = new Row();
        private final Row powerLead = new Row();
        private final Row powerTerm = new Row();
        private final Row naturalLeft = new Row();
        private final Row naturalRight = new Row();
        private final Row naturalJoined = new Row();
        private final Row naturalTerm = new Row();
        private final Row thisTotal = new Row();
        private final Row nextTotal = new Row();

        static void makeSum(Row a, Row b, Row out) {
            if (b.isZero()) {
                out.become(a);
                return;
            }
            int bEnd = b.termEnd(0);
            long coefficient = b.coefficient(bEnd);
            int kept = 0;
            for (int term = 0; term < MOST_TERMS && kept < a.length; term++) {
                int end = a.termEnd(kept);
                int order = Row.orderOfExponents(a, kept, end, b, 0, bEnd);
                if (order == 0) {
                    coefficient += a.coefficient(end);
                }
                if (order <= 0) {
                    break;
                }
                kept = end;
            }
            out.becomePart(a, 0, kept);
            out.putTermAgain(b, 0, bEnd, coefficient);
            out.putPart(b, bEnd, b.length);
        }

        void makeProduct(Row a, Row b, Row out) {
            out.clear();
            if (a.isZero()) {
                return;
            }
            int aEnd = a.termEnd(0);
            productLead.becomeExponent(a, 0, aEnd);
            int start = 0;
            for (int term = 0; term < MOST_TERMS && start < b.length; term++) {
                int end = b.termEnd(start);
                productExponent.becomeExponent(b, start, end);
                if (productExponent.isZero()) {
                    out.putTerm(productLead, (long) a.coefficient(aEnd) * b.coefficient(end));
                    out.putPart(a, aEnd, a.length);
                } else {
                    makeSum(productLead, productExponent, productJoined);
                    out.putTerm(productJoined, b.coefficient(end));
                }
                start = end;
            }
        }

        void makePower(Row a, Row b, Row out) {
            if (b.isZero() || a.isOne()) {
                out.becomeNumber(1);
                return;
            }
            if (a.isZero()) {
                out.clear();
                return;
            }
            int m = b.finitePart();
            powerLimit.becomePart(b, 0, m == 0 ? b.length : b.length - TERM_CELLS);
            if (a.isFinite()) {
                makePowerOfNumber(a.finitePart(), m, out);
            } else {
                makePowerOfInfinite(a, m, out);
            }
        }

        private void makePowerOfNumber(int a, int m, Row out) {
            powerTerm.clear();
            int start = 0;
            for (int term = 0; term < MOST_TERMS && start < powerLimit.length; term++) {
                int end = powerLimit.termEnd(start);
                powerExponent.becomeExponent(powerLimit, start, end);
                if (powerExponent.isFinite()) {
                    powerExponent.becomeNumber(powerExponent.finitePart() - 1);
                }
                powerTerm.putTerm(powerExponent, powerLimit.coefficient(end));
                start = end;
            }
            out.becomeTerm(powerTerm, powerOfNumber(a, m));
        }

        /** A power beyond the greatest coefficient is not followed further. */
        private static long powerOfNumber(int a, int m) {
            long power = 1;
            for (int i = 0; i < m && power <= MOST_COEFFICIENT; i++) {
                power *= a;
            }
            return power;
        }

        private void makePowerOfInfinite(Row a, int m, Row out) {
            if (m > MOST_FACTORS) {
                throw new IllegalStateException("there is no room for so many factors");
            }
            Row total = thisTotal;
            Row next = nextTotal;
            total.becomeNumber(1);
            for (int i = 0; i < m; i++) {
                makeProduct(total, a, next);
                Row made = next;
                next = total;
                total = made;
            }
            powerLead.becomeExponent(a, 0, a.termEnd(0));
            makeProduct(powerLead, powerLimit, powerExponent);
            powerTerm.becomeTerm(powerExponent, 1);
            makeProduct(powerTerm, total, out);
        }

        static void makeNaturalSum(Row a, Row b, Row out) {
            out.clear();
            int i = 0;
            int j = 0;
            for (int term = 0; term < 2 * MOST_TERMS && i < a.length && j < b.length; term++) {
                int iEnd = a.termEnd(i);
                int jEnd = b.termEnd(j);
                int order = Row.orderOfExponents(a, i, iEnd, b, j, jEnd);
                if (order > 0) {
                    out.putPart(a, i, iEnd);
                    i = iEnd;
                } else if (order < 0) {
                    out.putPart(b, j, jEnd);
                    j = jEnd;
                } else {
                    out.putTermAgain(a, i, iEnd, (long) a.coefficient(iEnd) + b.coefficient(jEnd));
                    i = iEnd;
                    j = jEnd;
                }
            }
            out.putPart(a, i, a.length);
            out.putPart(b, j, b.length);
        }

        void makeNaturalProduct(Row a, Row b, Row out) {
            out.clear();
            int start = 0;
            for (int term = 0; term < MOST_TERMS && start < a.length; term++) {
                int end = a.termEnd(start);
                naturalLeft.becomeExponent(a, start, end);
                addNaturalProduct(a.coefficient(end), b, out);
                start = end;
            }
        }

        /** Adds to the total what the term of the exponent naturalLeft makes with all of b. */
        private void addNaturalProduct(int coefficient, Row b, Row total) {
            int start = 0;
            for (int term = 0; term < MOST_TERMS && start < b.length; term++) {
                int end = b.termEnd(start);
                naturalRight.becomeExponent(b, start, end);
                makeNaturalSum(naturalLeft, naturalRight, naturalJoined);
                naturalTerm.becomeTerm(naturalJoined, (long) coefficient * b.coefficient(end));
                makeNaturalSum(total, naturalTerm, nextTotal);
                total.become(nextTotal);
                start = end;
            }
        }
    }

    /** Differences, quotients and remainders: none of them is larger than what it is taken from. */
    private static final class Division {
        private final Row lead = new Row();
        private final Row exponent = new Row();
        private final Row gap = new Row();
        private final Row rest = new Row();
        private final Row multiple = new Row();

        /** For an a that is not less than b. */
        static void makeDifference(Row a, Row b, Row out) {
            out.clear();
            int start = 0;
            for (int term = 0; term < MOST_TERMS && start < a.length && start < b.length; term++) {
                int aEnd = a.termEnd(start);
                int bEnd = b.termEnd(start);
                if (Row.orderOfExponents(a, start, aEnd, b, start, bEnd) != 0) {
                    break;
                }
                int more = a.coefficient(aEnd) - b.coefficient(bEnd);
                if (more != 0) {
                    out.putTermAgain(a, start, aEnd, more);
                    start = aEnd;
                    break;
                }
                start = aEnd;
            }
            out.putPart(a, start, a.length);
        }

        /** For a b that is not 0. */
        void divide(Row a, Row b, Row quotient, Row remainder) {
            int bEnd = b.termEnd(0);
            lead.becomeExponent(b, 0, bEnd);
            quotient.clear();
            int start = 0;
            for (int term = 0; term < MOST_TERMS && start < a.length; term++) {
                int end = a.termEnd(start);
                if (Row.orderOfExponents(a, start, end, b, 0, bEnd) <= 0) {
                    break;
                }
                exponent.becomeExponent(a, start, end);
                makeDifference(exponent, lead, gap);
                quotient.putTerm(gap, a.coefficient(end));
                start = end;
            }
            rest.becomePart(a, start, a.length);
            int times = timesInRest(b, bEnd);
            quotient.putNumber(times);
            multiple.clear();
            if (times > 0) {
                multiple.putTermAgain(b, 0, bEnd, (long) times * b.coefficient(bEnd));
                multiple.putPart(b, bEnd, b.length);
            }
            makeDifference(rest, multiple, remainder);
        }

        /** How many times b goes into the rest, whose first exponent is not greater than b's. */
        private int timesInRest(Row b, int bEnd) {
            int restEnd = rest.termEnd(0);
            int divisor = b.coefficient(bEnd);
            if (rest.isZero() || divisor < 1
                    || Row.orderOfExponents(rest, 0, restEnd, b, 0, bEnd) < 0) {
                return 0;
            }
            int times = rest.coefficient(restEnd) / divisor;
            boolean even = times * divisor == rest.coefficient(restEnd);
            boolean lessBehind =
                    Row.orderOfParts(rest, restEnd, rest.length, b, bEnd, b.length) < 0;
            return even && lessBehind ? times - 1 : times;
        }
    }

    /** The ways from an ordinal to those below it: the one before it, its members, its steps. */
    private static final class Descent {
        private final Row thisLimit = new Row();
        private final Row nextLimit = new Row();

        /** Puts the one before the successor that is this part of a. */
        static void putBefore(Row a, int from, int to, Row out) {
            out.putPart(a, from, to - TERM_CELLS);
            out.putTermAgain(a, to - TERM_CELLS, to, a.coefficient(to) - 1);
        }

        /** For an a that is a limit. */
        static void makeMember(Row a, int n, Row out) {
            out.clear();
            int from = 0;
            int to = a.length;
            int open = 0;
            for (int level = 0; level < MOST_TERMS; level++) {
                int last = a.lastTerm(from, to);
                out.putPart(a, from, last);
                out.putTermAgain(a, last, to, a.coefficient(to) - 1);
                from = last + 1;
                to = to - 2;
                if (from >= to || a.endsInNumber(from, to)) {
                    break;
                }
                out.openTerm();
                open++;
            }
            if (n > 0) {
                out.openTerm();
                putBefore(a, from, to, out);
                out.closeTerm(n);
            }
            for (int i = 0; i < open; i++) {
                out.closeTerm(1);
            }
        }

        void stepDown(Row a, int base, Row out) {
            Row limit = thisLimit;
            Row next = nextLimit;
            limit.become(a);
            for (int i = 0; i < MOST_MEMBERS && limit.sort() == IS_LIMIT; i++) {
                makeMember(limit, base, next);
                Row made = next;
                next = limit;
                limit = made;
            }
            out.clear();
            putBefore(limit, 0, limit.length, out);
        }
    }

    /** A hydra, and the way through it to one of its heads. */
    private static final class Hydra {
        // Of each level, from the hydra itself down, where the term of the way stands.
        private final int[] starts = new int[MOST_TERMS];
        private final int[] ends = new int[MOST_TERMS];
        private int headLevel = 0;
        private final Row thinned = new Row();
        private final Row neck = new Row();

        boolean findsHead(Row hydra, int way) {
            int from = 0;
            int to = hydra.length;
            int digits = way;
            for (int level = 0; level < MOST_TERMS; level++) {
                int start = hydra.termNumber(digits % WAY_BASE, from, to);
                if (start == NONE) {
                    return false;
                }
                int end = hydra.termEnd(start);
                starts[level] = start;
                ends[level] = end;
                headLevel = level;
                if (end - start == TERM_CELLS) {
                    return true;
                }
                from = start + 1;
                to = end - 2;
                digits /= WAY_BASE;
            }
            return false;
        }

        /** Cuts the head that was found last. */
        void cutHead(Row hydra, int copies, Row out) {
            makeThinned(hydra, headLevel, out);
            for (int level = headLevel - 1; level >= 0; level--) {
                neck.becomeTerm(out, level == headLevel - 1 ? copies + 1 : 1);
                makeThinned(hydra, level, thinned);
                Arithmetic.makeNaturalSum(thinned, neck, out);
            }
        }

        private void makeThinned(Row hydra, int level, Row out) {
            int from = level == 0 ? 0 : starts[level - 1] + 1;
            int to = level == 0 ? hydra.length : ends[level - 1] - 2;
            int start = starts[level];
            int end = ends[level];
            out.becomePart(hydra, from, start);
            out.putTermAgain(hydra, start, end, hydra.coefficient(end) - 1);
            out.putPart(hydra, end, to);
        }
    }

    /** The pile that FAST works off. */
    private static final class Pile {
        private final Row[] rows = new Row[MOST_ON_PILE];
        private final int[] times = new int[MOST_ON_PILE];
        private int height = 0;
        private int number = 0;
        private final Row made = new Row();

        Pile() {
            for (int i = 0; i < MOST_ON_PILE; i++) {
                rows[i] = new Row();
            }
        }

        int workOff(Row first, int n, int fuel) {
            number = n;
            height = 0;
            pushes(first, 1);
            for (int used = 0; used < fuel && height > 0; used++) {
                if (!appliesTop()) {
                    return NONE;
                }
            }
            return height > 0 ? NONE : number;
        }

        /** Applies the top one time, unless the number or the pile would grow too large. */
        private boolean appliesTop() {
            Row top = rows[height - 1];
            times[height - 1]--;
            if (times[height - 1] <= 0) {
                height--;
            }
            int sort = top.sort();
            if (sort == IS_ZERO) {
                number++;
                return number <= MOST_FAST_RESULT;
            }
            if (sort == IS_LIMIT) {
                // Made before the pile is looked at: having no room for it comes first.
                Descent.makeMember(top, number, made);
                return pushes(made, 1);
            }
            made.clear();
            Descent.putBefore(top, 0, top.length, made);
            return pushes(made, number);
        }

        private boolean pushes(Row row, int count) {
            if (count <= 0) {
                return true;
            }
            if (height >= MOST_ON_PILE) {
                return false;
            }
            rows[height].become(row);
            times[height] = count;
            height++;
            return true;
        }
    }

    /** From numbers to ordinals, and back. */
    private static final class Numbers {
        // The sums of the ordinal itself and of the exponents that stand open.
        private final long[] sums = new long[MOST_TERMS + 1];

        static void makeInBase(int n, int base, Row out) {
            out.clear();
            putInBase(n, base, out, 0);
        }

        private static void putInBase(int n, int base, Row out, int depth) {
            if (depth > MOST_TERMS) {
                throw new IllegalStateException("there is no room for so deep an exponent");
            }
            long power = 1;
            int exponent = 0;
            while (exponent < MOST_DIGITS && power * base <= n) {
                power *= base;
                exponent++;
            }
            long rest = n;
            for (int e = exponent; e >= 0 && power > 0; e--) {
                long digit = rest / power;
                if (digit > 0) {
                    out.openTerm();
                    putInBase(e, base, out, depth + 1);
                    out.closeTerm(digit);
                }
                rest -= digit * power;
                power /= base;
            }
        }

        /** The value of the ordinal at n, or some number beyond the greatest value. */
        long worth(Row row, int n) {
            int open = 0;
            sums[0] = 0;
            int i = 0;
            while (i < row.length) {
                if (row.cells[i] == 1 && open < MOST_TERMS) {
                    open++;
                    sums[open] = 0;
                    i++;
                } else {
                    long term = row.coefficient(i + 2) * powerOf(n, sums[open]);
                    open = Math.max(open - 1, 0);
                    sums[open] = atMostBeyond(sums[open] + term);
                    i += 2;
                }
            }
            return sums[0];
        }

        private static long powerOf(int n, long exponent) {
            if (n < 2) {
                return n == 1 || exponent == 0 ? 1 : 0;
            }
            long power = 1;
            for (long i = 0; i < exponent && power <= MOST_VALUE; i++) {
                power = atMostBeyond(power * n);
            }
            return power;
        }

        private static long atMostBeyond(long number) {
            return Math.min(number, MOST_VALUE + 1L);
        }
    }
}
