import java.util.NoSuchElementException;

/** Twelve registers of whole numbers, a tape that texts are read from, and the text written latest. */
public final class BigDesk {
    private static final int REGISTERS = 12;
    private static final int MOST_BITS = 8192;
    private static final int MOST_LIMB = 255;
    private static final int TAPE_ROOM = 2600;
    /** The longest text: 2 to the 8192 less one has 2467 digits, and a - may stand before them. */
    private static final int MOST_DIGITS = 2467;
    private static final int OUT_ROOM = MOST_DIGITS + 1;

    private static final int LIMB_BITS = 32;
    private static final long LIMB_MASK = 0xFFFFFFFFL;
    /** Two limbs more than a number needs, so that every result that is only just too large still fits. */
    private static final int ROOM = MOST_BITS / LIMB_BITS + 2;

    private static final int MINUS = 45;
    private static final int ZERO = 48;
    private static final int NINE = 57;
    /** Nine digits at a time: the greatest power of ten that fits a limb. */
    private static final int CHUNK_DIGITS = 9;
    private static final long CHUNK = 1000000000L;

    private final Whole[] registers;
    /** Every result is made here first, so that a call that throws has changed no register. */
    private final Whole made;
    /** For a long that is to be reckoned with like a register. */
    private final Whole small;
    private final Division division;
    private final CommonDivisor commonDivisor;
    private final byte[] tape;
    private int tapeLength;
    private final byte[] written;
    private int writtenLength;

    public BigDesk() {
        registers = new Whole[REGISTERS];
        for (int i = 0; i < REGISTERS; i++) {
            registers[i] = new Whole();
        }
        made = new Whole();
        small = new Whole();
        division = new Division();
        commonDivisor = new CommonDivisor();
        tape = new byte[TAPE_ROOM];
        tapeLength = 0;
        written = new byte[OUT_ROOM];
        writtenLength = 0;
    }

    public void set(int r, long v) throws IllegalArgumentException {
        register(r).becomeLong(v);
    }

    public void copy(int r, int a) throws IllegalArgumentException {
        Whole target = register(r);
        target.become(register(a));
    }

    public void add(int r, int a, int b) throws IllegalArgumentException, IllegalStateException {
        Whole target = register(r);
        Sums.total(made, register(a), register(b), false);
        keepMade(target);
    }

    public void subtract(int r, int a, int b) throws IllegalArgumentException, IllegalStateException {
        Whole target = register(r);
        Sums.total(made, register(a), register(b), true);
        keepMade(target);
    }

    public void multiply(int r, int a, int b) throws IllegalArgumentException, IllegalStateException {
        Whole target = register(r);
        keepProduct(target, register(a), register(b));
    }

    public void times(int r, int a, long v) throws IllegalArgumentException, IllegalStateException {
        Whole target = register(r);
        Whole factor = register(a);
        small.becomeLong(v);
        keepProduct(target, factor, small);
    }

    public void shift(int r, int a, int n) throws IllegalArgumentException, IllegalStateException {
        Whole target = register(r);
        Whole source = register(a);
        requireShift(n);
        if (source.bits() + n > MOST_BITS) {
            throw new IllegalStateException("more than 8192 bits");
        }
        made.becomeShiftedUp(source, n);
        made.markSign(source.negative);
        keepMade(target);
    }

    public void half(int r, int a, int n) throws IllegalArgumentException {
        Whole target = register(r);
        Whole source = register(a);
        requireShift(n);
        made.becomeShiftedDown(source, n);
        if (source.negative && source.endingZeros() < n) {
            made.addOne();
        }
        made.markSign(source.negative);
        target.become(made);
    }

    public void divide(int q, int s, int a, int b) throws IllegalArgumentException, ArithmeticException {
        Whole quotientTarget = register(q);
        Whole restTarget = register(s);
        Whole dividend = register(a);
        Whole divisor = register(b);
        if (q == s) {
            throw new IllegalArgumentException("quotient and rest in one register");
        }
        if (divisor.size == 0) {
            throw new ArithmeticException("division by 0");
        }
        division.downwards(dividend, divisor);
        quotientTarget.become(division.quotient);
        restTarget.become(division.remainder);
    }

    public void gcd(int r, int a, int b) throws IllegalArgumentException {
        Whole target = register(r);
        target.become(commonDivisor.greatest(register(a), register(b), division));
    }

    public void negate(int r, int a) throws IllegalArgumentException {
        Whole target = register(r);
        Whole source = register(a);
        boolean below = !source.negative;
        target.become(source);
        target.markSign(below);
    }

    public int compare(int a, int b) throws IllegalArgumentException {
        Whole x = register(a);
        Whole y = register(b);
        if (x.negative != y.negative) {
            return x.negative ? -1 : 1;
        }
        int order = Sums.orderOfAbsolutes(x, y);
        return x.negative ? -order : order;
    }

    public long rest(int a, long m) throws IllegalArgumentException {
        Whole dividend = register(a);
        if (m < 1) {
            throw new IllegalArgumentException("the divisor is below 1");
        }
        small.becomeLong(m);
        division.downwards(dividend, small);
        return division.remainder.asLong();
    }

    public long value(int a) throws IllegalArgumentException, IllegalStateException {
        Whole source = register(a);
        if (!source.isLong()) {
            throw new IllegalStateException("no long");
        }
        return source.asLong();
    }

    public long limb(int a, int k) throws IllegalArgumentException {
        Whole source = register(a);
        if (k < 0 || k > MOST_LIMB) {
            throw new IllegalArgumentException("no such limb");
        }
        return source.at(k);
    }

    public int look(int a, int what) throws IllegalArgumentException {
        Whole source = register(a);
        switch (what) {
            case 0:
                return source.negative ? -1 : source.size > 0 ? 1 : 0;
            case 1:
                return source.bits();
            case 2:
                return source.isLong() ? 1 : 0;
            case 3:
                return source.endingZeros();
            default:
                throw new IllegalArgumentException("nothing such to look at");
        }
    }

    public int feed(int n, long v) throws IllegalArgumentException, IllegalStateException {
        if (n < 1 || n > 8) {
            throw new IllegalArgumentException("not 1 to 8 bytes");
        }
        if (tapeLength + n > TAPE_ROOM) {
            throw new IllegalStateException("the tape is full");
        }
        for (int i = 0; i < n; i++) {
            tape[tapeLength + i] = (byte) (v >>> (8 * i));
        }
        tapeLength += n;
        return tapeLength;
    }

    public boolean read(int r) throws IllegalArgumentException {
        Whole target = register(r);
        int length = tapeLength;
        tapeLength = 0;
        if (!Texts.numberOf(made, tape, length) || made.bits() > MOST_BITS) {
            return false;
        }
        target.become(made);
        return true;
    }

    public int write(int a) throws IllegalArgumentException {
        made.become(register(a));
        writtenLength = Texts.textOf(made, written);
        return writtenLength;
    }

    public long out(int k) throws NoSuchElementException {
        if (k < 0 || k >= writtenLength) {
            throw new NoSuchElementException("no such byte");
        }
        int count = Math.min(8, writtenLength - k);
        long bytes = 0;
        for (int i = 0; i < count; i++) {
            bytes |= (long) written[k + i] << (8 * i);
        }
        return bytes;
    }

    public int text(int what) throws IllegalArgumentException {
        if (what == 0) {
            return tapeLength;
        }
        if (what == 1) {
            return writtenLength;
        }
        throw new IllegalArgumentException("no such text");
    }

    private Whole register(int r) {
        if (r < 0 || r >= REGISTERS) {
            throw new IllegalArgumentException("no such register");
        }
        return registers[r];
    }

    private static void requireShift(int n) {
        if (n < 0 || n > MOST_BITS) {
            throw new IllegalArgumentException("not 0 to 8192 bits");
        }
    }

    private void keepProduct(Whole target, Whole a, Whole b) {
        if (!Sums.product(made, a, b)) {
            throw new IllegalStateException("more than 8192 bits");
        }
        keepMade(target);
    }

    private void keepMade(Whole target) {
        if (made.bits() > MOST_BITS) {
            throw new IllegalStateException("more than 8192 bits");
        }
        target.become(made);
    }

    /** A sign and an absolute value in limbs of 32 bits, the lowest first. */
    private static final class Whole {
        /** From size on all are 0, so that a limb beyond the number can be read like any other. */
        final long[] limbs = new long[ROOM];
        /** The highest limb that is not 0 stands just below it. At most ROOM. */
        int size = 0;
        /** Never for 0, so that equal numbers are held alike. */
        boolean negative = false;

        void clear() {
            settle(0);
            negative = false;
        }

        void become(Whole other) {
            System.arraycopy(other.limbs, 0, limbs, 0, ROOM);
            size = other.size;
            negative = other.negative;
        }

        void becomeLong(long v) {
            // The lowest long is its own opposite, and read without sign that is its absolute value.
            long absolute = v < 0 ? -v : v;
            limbs[0] = absolute & LIMB_MASK;
            limbs[1] = absolute >>> LIMB_BITS;
            settle(2);
            markSign(v < 0);
        }

        void becomeShiftedUp(Whole other, int n) {
            int whole = n / LIMB_BITS;
            int part = n % LIMB_BITS;
            int count = Math.min(other.size + whole + 1, ROOM);
            for (int i = count - 1; i >= 0; i--) {
                long low = other.at(i - whole - 1) >>> (LIMB_BITS - part);
                limbs[i] = (other.at(i - whole) << part | low) & LIMB_MASK;
            }
            settle(count);
        }

        /** Goes upwards, so that a number may be shifted into itself. */
        void becomeShiftedDown(Whole other, int n) {
            int whole = n / LIMB_BITS;
            int part = n % LIMB_BITS;
            int count = Math.max(other.size - whole, 0);
            for (int i = 0; i < count; i++) {
                long high = other.at(i + whole + 1) << (LIMB_BITS - part);
                limbs[i] = (other.at(i + whole) >>> part | high) & LIMB_MASK;
            }
            settle(count);
        }

        /** To be called when the limbs below count (0 .. ROOM) have been written anew. */
        void settle(int count) {
            for (int i = count; i < size; i++) {
                limbs[i] = 0;
            }
            size = count;
            while (size > 0 && limbs[size - 1] == 0) {
                size--;
            }
        }

        void markSign(boolean below) {
            negative = below && size > 0;
        }

        long at(int i) {
            return i >= 0 && i < ROOM ? limbs[i] : 0;
        }

        int bits() {
            return size > 0 ? LIMB_BITS * (size - 1) + bitsOf(limbs[size - 1]) : 0;
        }

        int endingZeros() {
            for (int i = 0; i < size; i++) {
                long limb = limbs[i];
                if (limb != 0) {
                    return LIMB_BITS * i + Long.bitCount(~limb & (limb - 1));
                }
            }
            return 0;
        }

        boolean isLong() {
            long absolute = lowestLong();
            return size <= 2 && (absolute >= 0 || negative && absolute == Long.MIN_VALUE);
        }

        long asLong() {
            return negative ? -lowestLong() : lowestLong();
        }

        private long lowestLong() {
            return limbs[1] << LIMB_BITS | limbs[0];
        }

        /** The 64 bits of the absolute value from bit n on. */
        long longFrom(int n) {
            int whole = n / LIMB_BITS;
            int part = n % LIMB_BITS;
            long low = at(whole + 1) << LIMB_BITS | at(whole);
            return part == 0 ? low : low >>> part | at(whole + 2) << (2 * LIMB_BITS - part);
        }

        void addOne() {
            int i = 0;
            while (i < size && limbs[i] == LIMB_MASK) {
                limbs[i] = 0;
                i++;
            }
            if (i < ROOM) {
                limbs[i]++;
                size = Math.max(size, i + 1);
            }
        }

        void appendChunk(long chunk) {
            long carry = chunk;
            for (int i = 0; i < size; i++) {
                long sum = limbs[i] * CHUNK + carry;
                limbs[i] = sum & LIMB_MASK;
                carry = sum >>> LIMB_BITS;
            }
            if (carry > 0 && size < ROOM) {
                limbs[size] = carry;
                size++;
            }
        }

        long takeChunk() {
            long rest = 0;
            for (int i = size - 1; i >= 0; i--) {
                long part = rest << LIMB_BITS | limbs[i];
                limbs[i] = part / CHUNK;
                rest = part % CHUNK;
            }
            settle(size);
            return rest;
        }

        static int bitsOf(long limb) {
            int count = 0;
            while (count < LIMB_BITS && limb >>> count != 0) {
                count++;
            }
            return count;
        }
    }

    /** Sums, differences and products into a row that is none of those they are made of, but where said. */
    private static final class Sums {
        static void total(Whole to, Whole a, Whole b, boolean turned) {
            boolean secondBelow = b.negative != turned;
            if (a.negative == secondBelow) {
                sumOfAbsolutes(to, a, b);
                to.markSign(a.negative);
            } else if (orderOfAbsolutes(a, b) >= 0) {
                differenceOfAbsolutes(to, a, b);
                to.markSign(a.negative);
            } else {
                differenceOfAbsolutes(to, b, a);
                to.markSign(secondBelow);
            }
        }

        static int orderOfAbsolutes(Whole a, Whole b) {
            if (a.size != b.size) {
                return a.size < b.size ? -1 : 1;
            }
            for (int i = a.size - 1; i >= 0; i--) {
                if (a.limbs[i] != b.limbs[i]) {
                    return a.limbs[i] < b.limbs[i] ? -1 : 1;
                }
            }
            return 0;
        }

        static void sumOfAbsolutes(Whole to, Whole a, Whole b) {
            int count = Math.min(Math.max(a.size, b.size) + 1, ROOM);
            long carry = 0;
            for (int i = 0; i < count; i++) {
                long sum = a.limbs[i] + b.limbs[i] + carry;
                to.limbs[i] = sum & LIMB_MASK;
                carry = sum >>> LIMB_BITS;
            }
            to.settle(count);
        }

        /** a is not below b; to may be either of them. */
        static void differenceOfAbsolutes(Whole to, Whole a, Whole b) {
            int count = a.size;
            long borrow = 0;
            for (int i = 0; i < count; i++) {
                long difference = a.limbs[i] - b.limbs[i] - borrow;
                to.limbs[i] = difference & LIMB_MASK;
                borrow = difference >>> 63;
            }
            to.settle(count);
        }

        /** False when the limbs alone tell that the product has more bits than a number may have. */
        static boolean product(Whole to, Whole a, Whole b) {
            int count = a.size + b.size;
            if (count > ROOM) {
                return false;
            }
            for (int i = 0; i < count; i++) {
                to.limbs[i] = 0;
            }
            for (int i = 0; i < a.size; i++) {
                addRow(to.limbs, i, a.limbs[i], b);
            }
            to.settle(count);
            to.markSign(a.negative != b.negative);
            return true;
        }

        /** at + b.size stays below ROOM: product looks at that for all rows at once. */
        private static void addRow(long[] to, int at, long factor, Whole b) {
            long[] limbs = b.limbs;
            int count = b.size;
            long carry = 0;
            for (int j = 0; j < count; j++) {
                long sum = factor * limbs[j] + to[at + j] + carry;
                to[at + j] = sum & LIMB_MASK;
                carry = sum >>> LIMB_BITS;
            }
            to[at + count] = carry;
        }
    }

    /** Long division, a limb of the quotient at a time (Knuth's algorithm D). */
    private static final class Division {
        final Whole quotient = new Whole();
        final Whole remainder = new Whole();
        private final Whole scaled = new Whole();

        void downwards(Whole a, Whole b) {
            ofAbsolutes(a, b);
            boolean below = a.negative != b.negative;
            if (below && remainder.size > 0) {
                quotient.addOne();
                Sums.differenceOfAbsolutes(remainder, b, remainder);
            }
            quotient.markSign(below);
            remainder.markSign(b.negative);
        }

        /** Leaves quotient and remainder without a sign. */
        void ofAbsolutes(Whole a, Whole b) {
            quotient.clear();
            remainder.clear();
            if (b.size == 0 || a.size >= ROOM) {
                return;
            }
            // With the divisor's highest bit set, a guess from the highest limbs is at most one too large.
            int spare = LIMB_BITS - Whole.bitsOf(b.limbs[b.size - 1]);
            remainder.becomeShiftedUp(a, spare);
            scaled.becomeShiftedUp(b, spare);
            int last = a.size - b.size;
            for (int j = last; j >= 0; j--) {
                quotient.limbs[j] = nextLimb(j);
            }
            quotient.settle(Math.max(last + 1, 0));
            remainder.becomeShiftedDown(remainder, spare);
        }

        /** j + scaled.size is at most the dividend's size, which ofAbsolutes keeps below ROOM. */
        private long nextLimb(int j) {
            long guess = guessLimb(j);
            if (takeAway(j, guess)) {
                putBack(j);
                guess--;
            }
            return guess;
        }

        private long guessLimb(int j) {
            int top = j + scaled.size;
            long first = scaled.at(scaled.size - 1);
            long second = scaled.at(scaled.size - 2);
            long high = remainder.at(top);
            long both = high << LIMB_BITS | remainder.at(top - 1);
            long guess = high >= first ? LIMB_MASK : unsignedQuotient(both, first);
            long over = both - guess * first;
            for (int i = 0; i < 2 && over <= LIMB_MASK; i++) {
                long known = over << LIMB_BITS | remainder.at(top - 2);
                // Both sides are without sign; this turns their order into the order of longs.
                if (guess * second + Long.MIN_VALUE <= known + Long.MIN_VALUE) {
                    break;
                }
                guess--;
                over += first;
            }
            return guess;
        }

        /** For a divisor of at most 32 bits and a dividend without sign. */
        private static long unsignedQuotient(long dividend, long divisor) {
            if (divisor <= 0) {
                return 0;
            }
            long quotient = (dividend >>> 1) / divisor << 1;
            return dividend - quotient * divisor >= divisor ? quotient + 1 : quotient;
        }

        /** Whether that was once too often: then the remainder has fallen below 0. */
        private boolean takeAway(int j, long times) {
            long[] from = remainder.limbs;
            long[] limbs = scaled.limbs;
            int count = scaled.size;
            long carry = 0;
            for (int i = 0; i < count; i++) {
                long product = times * limbs[i] + carry;
                long difference = from[i + j] - (product & LIMB_MASK);
                from[i + j] = difference & LIMB_MASK;
                carry = (product >>> LIMB_BITS) + (difference >>> 63);
            }
            long difference = from[j + count] - carry;
            from[j + count] = difference & LIMB_MASK;
            return difference < 0;
        }

        private void putBack(int j) {
            long[] to = remainder.limbs;
            int count = scaled.size;
            long carry = 0;
            for (int i = 0; i < count; i++) {
                long sum = to[i + j] + scaled.limbs[i] + carry;
                to[i + j] = sum & LIMB_MASK;
                carry = sum >>> LIMB_BITS;
            }
            to[j + count] = to[j + count] + carry & LIMB_MASK;
        }
    }

    /**
     * Euclid's divisions, most of them foretold from the highest bits of both numbers and carried out
     * many at a time (Lehmer's way): one long division each would be some twenty times the work.
     */
    private static final class CommonDivisor {
        /** Far above the divisions that two numbers of 8192 bits can need, which is below 12000. */
        private static final int MOST_STEPS = 20000;
        private static final int MOST_FORETOLD = 64;
        private static final int SEEN_BITS = 62;
        /** A factor times a limb stays within a long. */
        private static final long MOST_FACTOR = 0x7FFFFFFFL;

        private Whole larger = new Whole();
        private Whole smaller = new Whole();
        /** After the foretold divisions the two numbers are the larger and the smaller times these. */
        private long firstLarger;
        private long firstSmaller;
        private long secondLarger;
        private long secondSmaller;

        Whole greatest(Whole a, Whole b, Division division) {
            larger.become(a);
            smaller.become(b);
            if (Sums.orderOfAbsolutes(larger, smaller) < 0) {
                exchange();
            }
            larger.markSign(false);
            smaller.markSign(false);
            for (int step = 0; step < MOST_STEPS && smaller.size > 0; step++) {
                if (foretell()) {
                    combine();
                } else {
                    division.ofAbsolutes(larger, smaller);
                    larger.become(division.remainder);
                    exchange();
                }
            }
            return larger;
        }

        private void exchange() {
            Whole other = larger;
            larger = smaller;
            smaller = other;
        }

        /** False when not even one quotient is certain (Knuth's algorithm L). */
        private boolean foretell() {
            int from = Math.max(larger.bits() - SEEN_BITS, 0);
            long x = larger.longFrom(from);
            long y = smaller.longFrom(from);
            long a = 1;
            long b = 0;
            long c = 0;
            long d = 1;
            for (int step = 0; step < MOST_FORETOLD; step++) {
                if (y + c <= 0 || y + d <= 0) {
                    break;
                }
                // The bits not seen put the true quotient between these two.
                long quotient = (x + a) / (y + c);
                if (quotient > MOST_FACTOR || quotient != (x + b) / (y + d)) {
                    break;
                }
                long nextC = a - quotient * c;
                long nextD = b - quotient * d;
                if (Math.abs(nextC) > MOST_FACTOR || Math.abs(nextD) > MOST_FACTOR) {
                    break;
                }
                a = c;
                b = d;
                c = nextC;
                d = nextD;
                long nextY = x - quotient * y;
                x = y;
                y = nextY;
            }
            firstLarger = a;
            firstSmaller = b;
            secondLarger = c;
            secondSmaller = d;
            return b != 0;
        }

        private void combine() {
            long[] u = larger.limbs;
            long[] v = smaller.limbs;
            int count = larger.size;
            long firstCarry = 0;
            long secondCarry = 0;
            for (int i = 0; i < count; i++) {
                long first = firstLarger * u[i] + firstSmaller * v[i] + firstCarry;
                long second = secondLarger * u[i] + secondSmaller * v[i] + secondCarry;
                u[i] = first & LIMB_MASK;
                v[i] = second & LIMB_MASK;
                firstCarry = first >> LIMB_BITS;
                secondCarry = second >> LIMB_BITS;
            }
            larger.settle(count);
            smaller.settle(count);
        }
    }

    /** Numbers from decimal texts and back. */
    private static final class Texts {
        private static boolean isText(byte[] row, int length) {
            if (length < 1 || length > row.length) {
                return false;
            }
            int start = row[0] == MINUS ? 1 : 0;
            if (length == start || row[start] == ZERO && length > 1) {
                return false;
            }
            for (int i = start; i < length; i++) {
                if (row[i] < ZERO || row[i] > NINE) {
                    return false;
                }
            }
            return true;
        }

        /** False when the row holds no text, or one of more digits than any number has. */
        static boolean numberOf(Whole to, byte[] row, int length) {
            if (!isText(row, length)) {
                return false;
            }
            int start = row[0] == MINUS ? 1 : 0;
            if (length - start > MOST_DIGITS) {
                return false;
            }
            long chunk = 0;
            to.clear();
            for (int i = start; i < length; i++) {
                chunk = chunk * 10 + row[i] - ZERO;
                if ((length - 1 - i) % CHUNK_DIGITS == 0) {
                    to.appendChunk(chunk);
                    chunk = 0;
                }
            }
            to.markSign(start == 1);
            return true;
        }

        /** Uses the number up. The digits come from the lowest on, so they are laid at the row's end first. */
        static int textOf(Whole from, byte[] row) {
            boolean below = from.negative;
            from.markSign(false);
            int start = row.length;
            for (int i = 0; i < MOST_DIGITS && from.size > 0; i += CHUNK_DIGITS) {
                start = layChunk(from, row, start);
            }
            if (start == row.length) {
                start = layByte(ZERO, row, start);
            }
            if (below) {
                start = layByte(MINUS, row, start);
            }
            int length = row.length - start;
            System.arraycopy(row, start, row, 0, length);
            return length;
        }

        private static int layChunk(Whole from, byte[] row, int end) {
            int start = end;
            long chunk = from.takeChunk();
            // Only the highest chunk leaves out the zeros before its digits.
            for (int i = 0; i < CHUNK_DIGITS && (from.size > 0 || chunk > 0); i++) {
                start = layByte((int) (ZERO + chunk % 10), row, start);
                chunk /= 10;
            }
            return start;
        }

        private static int layByte(int b, byte[] row, int end) {
            if (end < 1 || end > row.length) {
                return end;
            }
            row[end - 1] = (byte) b;
            return end - 1;
        }
    }
}
