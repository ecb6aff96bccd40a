/** Numbers known but for a radius; README.md says how to use it. */
public final class BallDesk {

    public static final int BAD = -1, BELOW = -2, ABOVE = 2, SAME = 3, WITHIN = 4, AROUND = 5, ACROSS = 6;

    private static final int DONE = 1;
    private static final int NO_SUCH = -2;
    private static final int PLACES = 12;
    private static final int LEAST_BITS = 16;
    private static final int MOST_BITS = 192;
    private static final int BITS_BEFORE_POINT = 48;
    private static final int SINE_BITS_BEFORE_POINT = 20;
    private static final int FINER = 64;
    private static final int POWER_LIMIT = 16;
    private static final int DIGITS_BEHIND = 60;
    private static final int DIGITS_BEFORE = 14;

    private final int bits;
    private final Whole limit = new Whole();
    private final Ball[] places = new Ball[PLACES];
    private final Ball made = new Ball();
    private final Whole low = new Whole();
    private final Whole high = new Whole();
    private final Whole left = new Whole();
    private final Whole right = new Whole();
    private final Whole step = new Whole();
    private final Division division = new Division();
    private final Fine fine;

    public BallDesk(int bits) {
        this.bits = Math.max(LEAST_BITS, Math.min(MOST_BITS, bits));
        limit.becomePower(this.bits + BITS_BEFORE_POINT);
        for (int k = 0; k < PLACES; k++) {
            places[k] = new Ball();
        }
        fine = new Fine(this.bits + FINER);
    }

    public int set(int k, long a, long b) {
        if (!isPlace(k) || b <= 0) {
            return BAD;
        }
        left.become(a);
        left.raise(bits);
        right.become(b);
        boolean just = division.quotient(made.middle, left, right);
        made.radius.become(just ? 0 : 1);
        return keep(k);
    }

    public int add(int k, int i, int j) {
        if (!isPlace(k) || !isPlace(i) || !isPlace(j)) {
            return BAD;
        }
        made.middle.sum(places[i].middle, places[j].middle);
        made.radius.sum(places[i].radius, places[j].radius);
        return keep(k);
    }

    public int take(int k, int i, int j) {
        if (!isPlace(k) || !isPlace(i) || !isPlace(j)) {
            return BAD;
        }
        made.middle.difference(places[i].middle, places[j].middle);
        made.radius.sum(places[i].radius, places[j].radius);
        return keep(k);
    }

    public int times(int k, int i, int j) {
        if (!isPlace(k) || !isPlace(i) || !isPlace(j)) {
            return BAD;
        }
        Ball x = places[i];
        Ball y = places[j];
        made.middle.product(x.middle, y.middle);
        made.middle.lower(bits);
        left.product(x.middle, y.radius);
        left.dropSign();
        right.product(y.middle, x.radius);
        right.dropSign();
        left.sum(left, right);
        right.product(x.radius, y.radius);
        left.sum(left, right);
        // Rounding down what is turned rounds up what was there.
        left.turn();
        left.lower(bits);
        left.turn();
        made.radius.become(left);
        change(made.radius, 1);
        return keep(k);
    }

    public int over(int k, int i, int j) {
        if (!isPlace(k) || !isPlace(i) || !isPlace(j)) {
            return BAD;
        }
        Ball x = places[i];
        Ball y = places[j];
        Whole divisor = left;
        divisor.become(y.middle);
        divisor.dropSign();
        if (divisor.order(y.radius) <= 0) {
            return BAD;
        }
        made.middle.become(x.middle);
        if (y.middle.sign() < 0) {
            made.middle.turn();
        }
        made.middle.raise(bits);
        division.quotient(made.middle, made.middle, divisor);
        radiusOfQuotient(x, divisor, y.radius);
        return keep(k);
    }

    public int root(int k, int i) {
        if (!isPlace(k) || !isPlace(i)) {
            return BAD;
        }
        findEnds(places[i]);
        if (low.sign() < 0) {
            return BAD;
        }
        low.raise(bits);
        fine.squareRoot(low);
        high.raise(bits);
        fine.squareRoot(high);
        change(high, 1);
        return keepEnds(k);
    }

    public int exp(int k, int i) {
        if (!isPlace(k) || !isPlace(i)) {
            return BAD;
        }
        findEnds(places[i]);
        right.become(POWER_LIMIT);
        right.raise(bits);
        left.become(right);
        left.turn();
        if (low.order(left) < 0 || high.order(right) > 0) {
            return BAD;
        }
        refineEnds();
        fine.exponential(low);
        fine.exponential(high);
        coarsenEnds();
        if (low.sign() < 0) {
            low.clear();
        }
        return keepEnds(k);
    }

    public int log(int k, int i) {
        if (!isPlace(k) || !isPlace(i)) {
            return BAD;
        }
        findEnds(places[i]);
        if (low.sign() <= 0) {
            return BAD;
        }
        refineEnds();
        fine.logarithm(low);
        fine.logarithm(high);
        coarsenEnds();
        return keepEnds(k);
    }

    public int arc(int k, int i) {
        if (!isPlace(k) || !isPlace(i)) {
            return BAD;
        }
        findEnds(places[i]);
        refineEnds();
        fine.arcOf(low);
        fine.arcOf(high);
        coarsenEnds();
        return keepEnds(k);
    }

    public int sine(int k, int i, boolean cosine) {
        if (!isPlace(k) || !isPlace(i)) {
            return BAD;
        }
        Ball x = places[i];
        right.becomePower(bits + SINE_BITS_BEFORE_POINT);
        if (x.middle.orderWithoutSign(right) > 0) {
            return BAD;
        }
        left.become(x.middle);
        left.raise(FINER);
        if (cosine) {
            right.become(fine.halfTurn());
            right.lower(1);
            left.sum(left, right);
        }
        fine.sineOf(left);
        left.lower(FINER);
        made.middle.become(left);
        made.radius.become(x.radius);
        change(made.radius, 2);
        return keep(k);
    }

    public int pi(int k) {
        if (!isPlace(k)) {
            return BAD;
        }
        made.middle.become(fine.halfTurn());
        made.middle.lower(FINER);
        made.radius.become(2);
        return keep(k);
    }

    public int widen(int k, long by) {
        if (!isPlace(k) || by < 0) {
            return BAD;
        }
        made.become(places[k]);
        change(made.radius, by);
        return keep(k);
    }

    public int join(int k, int i, int j) {
        if (!isPlace(k) || !isPlace(i) || !isPlace(j)) {
            return BAD;
        }
        findEnds(places[i]);
        findOtherEnds(places[j]);
        if (left.order(low) < 0) {
            low.become(left);
        }
        if (right.order(high) > 0) {
            high.become(right);
        }
        return keepEnds(k);
    }

    public int lies(int i, int j) {
        if (!isPlace(i) || !isPlace(j)) {
            return BAD;
        }
        findEnds(places[i]);
        findOtherEnds(places[j]);
        if (high.order(left) < 0) {
            return BELOW;
        }
        if (low.order(right) > 0) {
            return ABOVE;
        }
        int lows = low.order(left);
        int highs = high.order(right);
        if (lows == 0 && highs == 0) {
            return SAME;
        }
        if (lows >= 0 && highs <= 0) {
            return WITHIN;
        }
        return lows <= 0 && highs >= 0 ? AROUND : ACROSS;
    }

    public int holds(int k, long a, long b) {
        if (!isPlace(k) || b <= 0) {
            return BAD;
        }
        findEnds(places[k]);
        step.become(b);
        left.product(low, step);
        right.product(high, step);
        step.become(a);
        step.raise(bits);
        return left.order(step) <= 0 && step.order(right) <= 0 ? 1 : 0;
    }

    public long limb(int k, int part, int limb) throws IndexOutOfBoundsException {
        if (!isPlace(k) || part < 0 || part > 3) {
            return NO_SUCH;
        }
        Whole x = partOf(places[k], part);
        if (limb == -1) {
            return x.sign();
        }
        if (limb < 0 || limb >= Math.max(1, x.size())) {
            throw new IndexOutOfBoundsException("no such limb");
        }
        return x.at(limb);
    }

    public int digit(int k, int d) {
        if (!isPlace(k) || d > DIGITS_BEHIND || d < -DIGITS_BEFORE) {
            return BAD;
        }
        left.become(places[k].middle);
        left.dropSign();
        for (int n = 0; n < d; n++) {
            left.multiply(10);
        }
        left.lower(bits);
        for (int n = 0; n > d; n--) {
            left.divide(10);
        }
        return left.divide(10);
    }

    public int sure(int k) {
        if (!isPlace(k)) {
            return NO_SUCH;
        }
        findEnds(places[k]);
        for (int d = 0; d <= DIGITS_BEHIND; d++) {
            left.become(low);
            left.lower(bits);
            right.become(high);
            right.lower(bits);
            if (left.order(right) != 0) {
                return d - 1;
            }
            low.multiply(10);
            high.multiply(10);
        }
        return DIGITS_BEHIND;
    }

    public int count(int what) {
        if (what == 0) {
            return bits;
        }
        if (what != 1 && what != 2) {
            return BAD;
        }
        int most = 0;
        for (int k = 0; k < PLACES; k++) {
            Whole x = what == 1 ? places[k].middle : places[k].radius;
            most = Math.max(most, x.bits());
        }
        return most;
    }

    private static boolean isPlace(int k) {
        return k >= 0 && k < PLACES;
    }

    /** Every call works on the ball made, so that a BAD one has changed no place. */
    private int keep(int k) {
        if (!made.isWithin(limit)) {
            return BAD;
        }
        places[k].become(made);
        return DONE;
    }

    private int keepEnds(int k) {
        made.middle.sum(low, high);
        made.middle.lower(1);
        made.radius.difference(high, made.middle);
        return keep(k);
    }

    private void findEnds(Ball x) {
        low.difference(x.middle, x.radius);
        high.sum(x.middle, x.radius);
    }

    private void findOtherEnds(Ball x) {
        left.difference(x.middle, x.radius);
        right.sum(x.middle, x.radius);
    }

    private void refineEnds() {
        low.raise(FINER);
        high.raise(FINER);
    }

    /** The fine numbers err by little: one part less and two more take in what is true. */
    private void coarsenEnds() {
        low.lower(FINER);
        change(low, -1);
        high.lower(FINER);
        change(high, 2);
    }

    private void change(Whole x, long by) {
        step.become(by);
        x.sum(x, step);
    }

    /** Leaves the radius of x by a ball whose middle, without its sign, is the divisor. */
    private void radiusOfQuotient(Ball x, Whole divisor, Whole divisorRadius) {
        right.product(x.middle, divisorRadius);
        right.dropSign();
        high.product(divisor, x.radius);
        right.sum(right, high);
        right.raise(bits);
        low.difference(divisor, divisorRadius);
        high.product(divisor, low);
        // Rounding down what is turned rounds up what was there.
        right.turn();
        division.quotient(made.radius, right, high);
        made.radius.turn();
        change(made.radius, 1);
    }

    private Whole partOf(Ball x, int part) {
        if (part == 0) {
            return x.middle;
        }
        if (part == 1) {
            return x.radius;
        }
        findEnds(x);
        return part == 2 ? low : high;
    }

    private static final class Ball {
        final Whole middle = new Whole();
        final Whole radius = new Whole();

        void become(Ball x) {
            middle.become(x.middle);
            radius.become(x.radius);
        }

        boolean isWithin(Whole limit) {
            return middle.orderWithoutSign(limit) <= 0
                && radius.sign() >= 0 && radius.orderWithoutSign(limit) <= 0;
        }
    }

    /**
     * A whole number of any sign. Its row of limbs is made once and used again, since all calls
     * share one room. The longest number that any call needs (in over, below 2^(P + 481), P being
     * 192) has 22 limbs; a longer one is not worked out, so that no index ever leaves the row.
     */
    private static final class Whole {
        static final int ROOM = 24;
        static final int LIMB_BITS = 32;
        static final long LIMB_MASK = 0xFFFFFFFFL;

        private final long[] row = new long[ROOM];
        private int size;
        private int sign;

        int sign() {
            return sign;
        }

        int size() {
            return size;
        }

        long at(int i) {
            return i >= 0 && i < size ? row[i] : 0;
        }

        int bits() {
            return size == 0 ? 0 : size * LIMB_BITS + LIMB_BITS - Long.numberOfLeadingZeros(row[size - 1]);
        }

        boolean isOdd() {
            return (at(0) & 1) != 0;
        }

        /** Whether it is 0 or - 1, at which the parts of a row end. */
        boolean isSpent() {
            return sign == 0 || sign < 0 && size == 1 && row[0] == 1;
        }

        void clear() {
            size = 0;
            sign = 0;
        }

        void become(long value) {
            // The least long has no positive one, but its bits are right when read without sign.
            long plain = value < 0 ? -value : value;
            row[0] = plain & LIMB_MASK;
            row[1] = plain >>> LIMB_BITS;
            sign = Long.signum(value);
            trim(2);
        }

        void become(Whole x) {
            System.arraycopy(x.row, 0, row, 0, x.size);
            size = x.size;
            sign = x.sign;
        }

        /** Becomes 2^n. */
        void becomePower(int n) {
            int limbs = n / LIMB_BITS;
            if (n < 0 || limbs >= ROOM) {
                clear();
                return;
            }
            for (int i = 0; i < limbs; i++) {
                row[i] = 0;
            }
            row[limbs] = 1L << n % LIMB_BITS;
            size = limbs + 1;
            sign = 1;
        }

        void turn() {
            sign = -sign;
        }

        void dropSign() {
            sign = Math.abs(sign);
        }

        int order(Whole x) {
            if (sign != x.sign) {
                return Integer.compare(sign, x.sign);
            }
            return sign < 0 ? x.orderWithoutSign(this) : orderWithoutSign(x);
        }

        int orderWithoutSign(Whole x) {
            if (size != x.size) {
                return Integer.compare(size, x.size);
            }
            for (int i = size - 1; i >= 0; i--) {
                if (row[i] != x.row[i]) {
                    return Long.compare(row[i], x.row[i]);
                }
            }
            return 0;
        }

        void sum(Whole x, Whole y) {
            unite(x, y, y.sign);
        }

        void difference(Whole x, Whole y) {
            unite(x, y, -y.sign);
        }

        private void unite(Whole x, Whole y, int ySign) {
            int xSign = x.sign;
            int longest;
            if (xSign * ySign >= 0) {
                longest = gather(x, y);
                sign = xSign == 0 ? ySign : xSign;
            } else if (x.orderWithoutSign(y) >= 0) {
                longest = subtract(x, y);
                sign = xSign;
            } else {
                longest = subtract(y, x);
                sign = ySign;
            }
            trim(longest);
        }

        /** Leaves the sum of both without sign in the row; answers how many limbs to look at. */
        private int gather(Whole x, Whole y) {
            int longest = Math.max(x.size, y.size);
            long carry = 0;
            for (int i = 0; i < longest; i++) {
                long u = (i < x.size ? x.row[i] : 0) + (i < y.size ? y.row[i] : 0) + carry;
                row[i] = u & LIMB_MASK;
                carry = u >>> LIMB_BITS;
            }
            if (longest < ROOM) {
                row[longest] = carry;
                longest++;
            }
            return longest;
        }

        /** As gather, for x less y; x without sign is not the lesser one. */
        private int subtract(Whole x, Whole y) {
            int longest = x.size;
            long borrow = 0;
            for (int i = 0; i < longest; i++) {
                long u = x.row[i] - (i < y.size ? y.row[i] : 0) - borrow;
                row[i] = u & LIMB_MASK;
                borrow = u < 0 ? 1 : 0;
            }
            return longest;
        }

        /** Neither x nor y may be this number itself. */
        void product(Whole x, Whole y) {
            int longest = x.size + y.size;
            if (longest > ROOM) {
                clear();
                return;
            }
            for (int i = 0; i < longest; i++) {
                row[i] = 0;
            }
            for (int i = 0; i < x.size; i++) {
                long by = x.row[i];
                long carry = 0;
                for (int j = 0; j < y.size; j++) {
                    // Even with all bits set this just fits into 64 bits without sign.
                    long u = by * y.row[j] + row[i + j] + carry;
                    row[i + j] = u & LIMB_MASK;
                    carry = u >>> LIMB_BITS;
                }
                row[i + y.size] = carry;
            }
            sign = x.sign * y.sign;
            trim(longest);
        }

        void multiply(int by) {
            long plain = Math.abs((long) by);
            long carry = 0;
            for (int i = 0; i < size; i++) {
                long u = row[i] * plain + carry;
                row[i] = u & LIMB_MASK;
                carry = u >>> LIMB_BITS;
            }
            sign *= Integer.signum(by);
            int longest = size;
            if (longest < ROOM) {
                row[longest] = carry;
                longest++;
            }
            trim(longest);
        }

        /** Rounds down; answers what is left over of the number without its sign. */
        int divide(int by) {
            if (by <= 0) {
                return 0;
            }
            boolean below = sign < 0;
            long rest = 0;
            for (int i = size - 1; i >= 0; i--) {
                long u = rest << LIMB_BITS | row[i];
                row[i] = u / by;
                rest = u % by;
            }
            trim(size);
            if (below && rest != 0) {
                stepDown();
            }
            return (int) rest;
        }

        void raise(int n) {
            int limbs = n / LIMB_BITS;
            int rest = n % LIMB_BITS;
            int longest = size + limbs + 1;
            if (size == 0 || n <= 0 || longest > ROOM) {
                return;
            }
            // From the top on down, so that no limb is overwritten before it is read.
            for (int i = longest - 1; i >= 0; i--) {
                row[i] = raisedLimb(i - limbs, rest);
            }
            trim(longest);
        }

        /** The limb i of this number times 2^n, n below the bits of a limb. */
        long raisedLimb(int i, int n) {
            return (at(i) << n | at(i - 1) >>> LIMB_BITS - n) & LIMB_MASK;
        }

        /** Rounds down. */
        void lower(int n) {
            if (n <= 0) {
                return;
            }
            int limbs = n / LIMB_BITS;
            int rest = n % LIMB_BITS;
            boolean tooGreat = sign < 0 && hasBitsBelow(n);
            int left = Math.max(0, size - limbs);
            for (int i = 0; i < left; i++) {
                long above = i + 1 < left ? row[i + limbs + 1] : 0;
                row[i] = (row[i + limbs] >>> rest | above << LIMB_BITS - rest) & LIMB_MASK;
            }
            trim(left);
            if (tooGreat) {
                stepDown();
            }
        }

        private boolean hasBitsBelow(int n) {
            int limbs = n / LIMB_BITS;
            for (int i = 0; i < limbs && i < size; i++) {
                if (row[i] != 0) {
                    return true;
                }
            }
            return limbs < size && (row[limbs] & (1L << n % LIMB_BITS) - 1) != 0;
        }

        /** One less, for a number that is not above 0: there, cut limbs are rounded up, not down. */
        void stepDown() {
            int i = 0;
            while (i < size && row[i] == LIMB_MASK) {
                row[i] = 0;
                i++;
            }
            if (i == size && size < ROOM) {
                row[size] = 0;
                size++;
            }
            if (i < size) {
                row[i]++;
            }
            sign = -1;
        }

        void trim(int longest) {
            size = longest;
            while (size > 0 && row[size - 1] == 0) {
                size--;
            }
            if (size == 0) {
                sign = 0;
            }
        }
    }

    /** Long division by limbs, with rows of its own for what is left and for the divisor. */
    private static final class Division {
        private final long[] rest = new long[Whole.ROOM + 1];
        private final long[] by = new long[Whole.ROOM];
        private int length;
        private int filled;

        /** Leaves a : b in to, which may be a or b itself; answers whether nothing is left over. */
        boolean quotient(Whole to, Whole a, Whole b) {
            if (b.sign() <= 0) {
                to.clear();
                return true;
            }
            length = b.size();
            filled = a.size() + 1;
            int sign = a.sign();
            int limbs = Math.max(0, filled - length);
            // With the divisor's highest bit set, a guessed limb is at most two too great.
            int shift = length * Whole.LIMB_BITS - b.bits();
            for (int i = 0; i < filled; i++) {
                rest[i] = a.raisedLimb(i, shift);
            }
            for (int i = 0; i < length; i++) {
                by[i] = b.raisedLimb(i, shift);
            }
            for (int j = limbs - 1; j >= 0; j--) {
                to.row[j] = nextLimb(j);
            }
            boolean just = isNothingLeft();
            to.sign = sign;
            to.trim(limbs);
            if (sign < 0 && !just) {
                to.stepDown();
            }
            return just;
        }

        private long nextLimb(int j) {
            long guess = guess(j);
            if (subtract(guess, j)) {
                addBack(j);
                guess--;
            }
            return guess;
        }

        private long guess(int j) {
            long first = rest[j + length];
            long second = rest[j + length - 1];
            long lead = by[length - 1];
            long guess = Whole.LIMB_MASK;
            long left = second + lead;
            if (first < lead) {
                // Halved, since a long with its highest bit set would be read as one below 0.
                long u = first << Whole.LIMB_BITS | second;
                guess = (u >>> 1) / lead << 1;
                left = u - guess * lead;
                if (left >= lead) {
                    guess++;
                    left -= lead;
                }
            }
            long third = length > 1 ? rest[j + length - 2] : 0;
            long follow = length > 1 ? by[length - 2] : 0;
            for (int n = 0; n < 2 && left <= Whole.LIMB_MASK; n++) {
                // The least long added to both, they are ordered as numbers without sign.
                long asked = guess * follow + Long.MIN_VALUE;
                if (asked <= (left << Whole.LIMB_BITS | third) + Long.MIN_VALUE) {
                    break;
                }
                guess--;
                left += lead;
            }
            return guess;
        }

        /** Answers whether the guess was one too great. */
        private boolean subtract(long guess, int j) {
            long carry = 0;
            for (int i = 0; i < length; i++) {
                long u = guess * by[i] + carry;
                long left = rest[i + j] - (u & Whole.LIMB_MASK);
                rest[i + j] = left & Whole.LIMB_MASK;
                carry = (u >>> Whole.LIMB_BITS) + (left < 0 ? 1 : 0);
            }
            long left = rest[j + length] - carry;
            rest[j + length] = left & Whole.LIMB_MASK;
            return left < 0;
        }

        private void addBack(int j) {
            long carry = 0;
            for (int i = 0; i < length; i++) {
                long u = rest[i + j] + by[i] + carry;
                rest[i + j] = u & Whole.LIMB_MASK;
                carry = u >>> Whole.LIMB_BITS;
            }
            rest[j + length] = rest[j + length] + carry & Whole.LIMB_MASK;
        }

        private boolean isNothingLeft() {
            for (int i = 0; i < filled; i++) {
                if (rest[i] != 0) {
                    return false;
                }
            }
            return true;
        }
    }

    /** The fine numbers' functions: each leaves its answer in the number that it is given. */
    private static final class Fine {
        /** No row of parts and no root comes near it: every part loses a bit, every guess half its error. */
        private static final int MOST_STEPS = 10000;

        private final int bits;
        private final Whole one = new Whole();
        private final Division division = new Division();
        private final Whole halfTurn = new Whole();
        private final Whole logOfTwo = new Whole();
        private final Whole part = new Whole();
        private final Whole square = new Whole();
        private final Whole term = new Whole();
        private final Whole wide = new Whole();
        private final Whole other = new Whole();
        private final Whole guess = new Whole();
        private final Whole next = new Whole();

        Fine(int bits) {
            this.bits = bits;
            one.becomePower(bits);
        }

        void exponential(Whole t) {
            int squarings = Math.max(0, t.bits() - (bits - 8));
            other.become(t);
            other.lower(squarings);
            part.become(one);
            t.become(one);
            for (int k = 1; k < MOST_STEPS; k++) {
                scale(part, other);
                part.divide(k);
                if (part.isSpent()) {
                    break;
                }
                t.sum(t, part);
            }
            for (int n = 0; n < squarings; n++) {
                scale(t, t);
            }
        }

        void logarithm(Whole t) {
            term.become(t);
            term.multiply(3);
            int k = term.bits() - bits - 2;
            t.raise(Math.max(0, -k));
            term.becomePower(bits + Math.max(0, k));
            other.difference(t, term);
            other.raise(bits);
            t.sum(t, term);
            division.quotient(t, other, t);
            sumOfRow(t, false);
            t.raise(1);
            other.become(logOfTwo());
            other.multiply(k);
            t.sum(t, other);
        }

        void arcOf(Whole t) {
            boolean below = t.sign() < 0;
            t.dropSign();
            boolean steep = t.order(one) > 0;
            if (steep) {
                other.becomePower(2 * bits);
                division.quotient(t, other, t);
            }
            for (int n = 0; n < 3; n++) {
                halveArc(t);
            }
            sumOfRow(t, true);
            t.raise(3);
            if (steep) {
                other.become(halfTurn());
                other.lower(1);
                t.difference(other, t);
            }
            if (below) {
                t.turn();
            }
        }

        void sineOf(Whole t) {
            Whole turn = halfTurn();
            term.become(t);
            term.raise(1);
            term.sum(term, turn);
            other.become(turn);
            other.raise(1);
            division.quotient(term, term, other);
            boolean odd = term.isOdd();
            wide.product(term, turn);
            part.difference(t, wide);
            square.become(part);
            scale(square, part);
            t.clear();
            for (int j = 1; j < MOST_STEPS && part.sign() != 0; j++) {
                t.sum(t, part);
                scale(part, square);
                part.divide(2 * j * (2 * j + 1));
                part.turn();
            }
            if (odd) {
                t.turn();
            }
        }

        void squareRoot(Whole v) {
            if (v.sign() <= 0) {
                v.clear();
                return;
            }
            // From above, Newton's guesses fall until they are at the root.
            guess.becomePower((v.bits() + 1) / 2);
            for (int n = 0; n < MOST_STEPS; n++) {
                division.quotient(next, v, guess);
                next.sum(next, guess);
                next.lower(1);
                if (next.order(guess) >= 0) {
                    break;
                }
                guess.become(next);
            }
            v.become(guess);
        }

        /** PI, worked out when it is first asked for; not to be changed. */
        Whole halfTurn() {
            if (halfTurn.sign() == 0) {
                halfTurn.become(one);
                halfTurn.divide(5);
                sumOfRow(halfTurn, true);
                halfTurn.raise(4);
                other.become(one);
                other.divide(239);
                sumOfRow(other, true);
                other.raise(2);
                halfTurn.difference(halfTurn, other);
            }
            return halfTurn;
        }

        private Whole logOfTwo() {
            if (logOfTwo.sign() == 0) {
                logOfTwo.become(one);
                logOfTwo.divide(3);
                sumOfRow(logOfTwo, false);
                logOfTwo.raise(1);
            }
            return logOfTwo;
        }

        private void halveArc(Whole t) {
            other.product(t, t);
            term.becomePower(2 * bits);
            other.sum(other, term);
            squareRoot(other);
            other.sum(other, one);
            t.raise(bits);
            division.quotient(t, t, other);
        }

        /** HYPER(w); or, with the odd parts taken away, ARC(w). */
        private void sumOfRow(Whole w, boolean takeOdd) {
            part.become(w);
            square.become(w);
            scale(square, w);
            w.clear();
            for (int j = 0; j < MOST_STEPS && !part.isSpent(); j++) {
                term.become(part);
                term.divide(2 * j + 1);
                if (takeOdd && j % 2 == 1) {
                    w.difference(w, term);
                } else {
                    w.sum(w, term);
                }
                scale(part, square);
            }
        }

        private void scale(Whole x, Whole by) {
            wide.product(x, by);
            wide.lower(bits);
            x.become(wide);
        }
    }
}
