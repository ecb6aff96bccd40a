import java.math.BigInteger;
import java.util.function.Consumer;
import java.util.function.Supplier;

/** Objects made ready for a test: each place has a ball of its own, so that a wrong change is seen. */
final class Desks {
    /** Of 16 bits: the parts of 1, and the most that a middle or a radius may have. */
    static final long ONE = 65536;
    static final BigInteger LIMIT = BigInteger.ONE.shiftLeft(64);
    /** The number that the limit stands for. */
    static final long MOST = 1L << 48;
    static final int[] NO_PLACES = {-1, 12, -12, 255, Integer.MIN_VALUE, Integer.MAX_VALUE};

    private static final int SCRATCH = 11;
    private static final BigInteger MOST_LONG = BigInteger.valueOf(Long.MAX_VALUE);

    private Desks() {
    }

    static BallDesk filled(int bits) {
        BallDesk desk = new BallDesk(bits);
        for (int k = 0; k < 12; k++) {
            desk.set(k, k % 2 == 0 ? 3 * k + 1 : -3 * k - 1, 8);
            desk.widen(k, k + 1);
        }
        return desk;
    }

    static Supplier<BallDesk> made(int bits, Consumer<BallDesk> steps) {
        return () -> {
            BallDesk desk = filled(bits);
            steps.accept(desk);
            return desk;
        };
    }

    static Supplier<BallDesk> made(Consumer<BallDesk> steps) {
        return made(16, steps);
    }

    /** Place k of an object of 16 bits, any but the last: just this middle and radius. */
    static void put(BallDesk desk, int k, BigInteger middle, BigInteger radius) {
        BigInteger[] parts = middle.divideAndRemainder(BigInteger.valueOf(ONE));
        desk.set(SCRATCH, parts[1].longValue(), ONE);
        desk.set(k, parts[0].longValue(), 1);
        desk.add(k, k, SCRATCH);
        for (BigInteger left = radius; left.signum() > 0; left = left.subtract(left.min(MOST_LONG))) {
            desk.widen(k, left.min(MOST_LONG).longValue());
        }
        desk.set(SCRATCH, 1, 1);
    }

    static void put(BallDesk desk, int k, long middle, long radius) {
        put(desk, k, BigInteger.valueOf(middle), BigInteger.valueOf(radius));
    }

    /** Place k of an object of 16 bits: from low to high, in parts, both odd or both even. */
    static void putEnds(BallDesk desk, int k, long low, long high) {
        put(desk, k, Math.floorDiv(low + high, 2), Math.floorDiv(high - low, 2));
    }

    /** The limit and a few parts more or less. */
    static BigInteger limitAnd(long parts) {
        return LIMIT.add(BigInteger.valueOf(parts));
    }

    static BigInteger minus(BigInteger a) {
        return a.negate();
    }

    static BigInteger big(long a) {
        return BigInteger.valueOf(a);
    }
}
