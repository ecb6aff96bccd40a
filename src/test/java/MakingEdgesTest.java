import java.math.BigInteger;
import java.util.function.Consumer;
import java.util.function.Supplier;

/** Promises 1 to 14: each sentence that names a boundary, on both sides of it; what is refused changes nothing. */
public final class MakingEdgesTest {
    private static final long ONE = Desks.ONE;
    private static final long MOST = Desks.MOST;
    private static final BigInteger LIMIT = Desks.LIMIT;
    private static final BigInteger MINUS_LIMIT = Desks.LIMIT.negate();
    private static final BigInteger ZERO = BigInteger.ZERO;
    private static final BigInteger UNIT = BigInteger.ONE;

    private static final Check check = new Check();

    public static void main(String[] args) {
        newObject();
        everyPlace();
        set();
        add();
        take();
        times();
        over();
        root();
        exp();
        log();
        arc();
        sine();
        pi();
        widen();
        join();
        check.end("MakingEdgesTest");
    }

    private static void newObject() {
        check.about("1: P is bits (16 if less, 192 if more)");
        int[] told = {Integer.MIN_VALUE, -192, -1, 0, 1, 15, 16, 17, 191, 192, 193, 256, Integer.MAX_VALUE};
        int[] due = {16, 16, 16, 16, 16, 16, 16, 17, 191, 192, 192, 192, 192};
        for (int n = 0; n < told.length; n++) {
            BallDesk desk = new BallDesk(told[n]);
            check.due("count(0), told " + told[n], desk.count(0), due[n]);
            desk.set(0, 1, 1);
            check.ball("1, told " + told[n], desk, 0, UNIT.shiftLeft(due[n]), ZERO);
            desk.set(0, MOST, 1);
            check.ball("2^48, told " + told[n], desk, 0, UNIT.shiftLeft(due[n] + 48), ZERO);
        }
    }

    /** Each place, the first and the last too, in each role of each call: the same ball comes of it. */
    private static void everyPlace() {
        for (Places call : Places.values()) {
            check.about("2 to 19: places 0 .. 11, " + call);
            for (int at = 0; at < call.places; at++) {
                for (int k = 0; k < 12; k++) {
                    samePlaces(call, at, k);
                }
            }
        }
    }

    private static void samePlaces(Places call, int at, int k) {
        int[] usual = {3, 4, 5};
        int[] other = {3, 4, 5};
        other[at] = k;
        BallDesk first = Places.ready(16);
        BallDesk second = Places.ready(16);
        for (BallDesk desk : new BallDesk[] {first, second}) {
            desk.join(k, usual[at], usual[at]);
        }
        if (k == other[(at + 1) % 3] || k == other[(at + 2) % 3]) {
            return;
        }
        check.due(call.text(other), call.on(second, other), call.on(first, usual));
        if (call.makes) {
            BigInteger middle = Check.part(first, usual[0], Check.MIDDLE);
            check.ball(call.text(other), second, other[0], middle, Check.part(first, usual[0], Check.RADIUS));
        }
    }

    private static Supplier<BallDesk> with(long middle, long radius) {
        return Desks.made(d -> Desks.put(d, 0, middle, radius));
    }

    private static Supplier<BallDesk> with(BigInteger middle, BigInteger radius) {
        return Desks.made(d -> Desks.put(d, 0, middle, radius));
    }

    private static Supplier<BallDesk> with(BigInteger middle, BigInteger radius, BigInteger otherMiddle, BigInteger otherRadius) {
        return Desks.made(d -> {
            Desks.put(d, 0, middle, radius);
            Desks.put(d, 1, otherMiddle, otherRadius);
        });
    }

    private static Supplier<BallDesk> with(long middle, long radius, long otherMiddle, long otherRadius) {
        return with(Desks.big(middle), Desks.big(radius), Desks.big(otherMiddle), Desks.big(otherRadius));
    }

    private static void set() {
        Supplier<BallDesk> maker = Desks.made(d -> { });
        check.about("2: a by b (b above 0)");
        check.taken("by 1", maker, d -> d.set(3, 7, 1), 3, 7 * ONE, 0);
        check.taken("by the most", maker, d -> d.set(3, Long.MAX_VALUE, Long.MAX_VALUE), 3, ONE, 0);
        for (long b : new long[] {0, -1, -ONE, -Long.MAX_VALUE, Long.MIN_VALUE}) {
            check.refused("by " + b, maker, d -> d.set(3, 7, b));
            check.refused("0 by " + b, maker, d -> d.set(3, 0, b));
        }

        check.about("2: the middle is (a 2^P) : b");
        long[][] rows = {{0, 1, 0, 0}, {0, Long.MAX_VALUE, 0, 0}, {1, ONE, 1, 0}, {-1, ONE, -1, 0}, {1, ONE + 1, 0, 1},
            {-1, ONE + 1, -1, 1}, {1, ONE - 1, 1, 1}, {-1, ONE - 1, -2, 1}, {1, 2 * ONE, 0, 1}, {-1, 2 * ONE, -1, 1},
            {3, 2 * ONE, 1, 1}, {-3, 2 * ONE, -2, 1}, {1, Long.MAX_VALUE, 0, 1}, {-1, Long.MAX_VALUE, -1, 1},
            {Long.MIN_VALUE, Long.MAX_VALUE, -ONE - 1, 1}, {-Long.MAX_VALUE, Long.MAX_VALUE, -ONE, 0},
            {Long.MIN_VALUE, 1L << 62, -2 * ONE, 0}, {Long.MAX_VALUE, 1L << 62, 2 * ONE - 1, 1}};
        for (long[] row : rows) {
            check.taken(row[0] + " by " + row[1], maker, d -> d.set(3, row[0], row[1]), 3, row[2], row[3]);
        }

        check.about("2: the radius 0 if that is just it, else 1");
        check.taken("just it", maker, d -> d.set(3, 5, 2), 3, 5 * ONE / 2, 0);
        check.taken("a little less", maker, d -> d.set(3, (5L << 50) - 1, 2L << 50), 3, 5 * ONE / 2 - 1, 1);
        check.taken("a little more", maker, d -> d.set(3, (5L << 50) + 1, 2L << 50), 3, 5 * ONE / 2, 1);
        check.taken("just it, below 0", maker, d -> d.set(3, -5, 2), 3, -5 * ONE / 2, 0);
        check.taken("a little less, below 0", maker, d -> d.set(3, -(5L << 50) - 1, 2L << 50), 3, -5 * ONE / 2 - 1, 1);
        check.taken("a little more, below 0", maker, d -> d.set(3, -(5L << 50) + 1, 2L << 50), 3, -5 * ONE / 2, 1);

        check.about("2: what is no ball");
        long odd = (1L << 15) - 1;
        check.taken("2^48 by a fraction", maker, d -> d.set(3, MOST * odd, odd), 3, LIMIT, ZERO);
        check.taken("a little less", maker, d -> d.set(3, MOST * odd - 1, odd), 3, Desks.limitAnd(-3), UNIT);
        check.refused("a little more", maker, d -> d.set(3, MOST * odd + 1, odd));
        check.taken("- 2^48 by a fraction", maker, d -> d.set(3, -MOST * odd, odd), 3, MINUS_LIMIT, ZERO);
        check.taken("a little more than - 2^48", maker, d -> d.set(3, 1 - MOST * odd, odd), 3, MINUS_LIMIT.add(Desks.big(2)), UNIT);
        check.refused("a little less than - 2^48", maker, d -> d.set(3, -MOST * odd - 1, odd));
        check.taken("the least by 2^15", maker, d -> d.set(3, Long.MIN_VALUE, 1L << 15), 3, MINUS_LIMIT, ZERO);
        check.refused("the least by 2^15 - 1", maker, d -> d.set(3, Long.MIN_VALUE, odd));
        check.taken("the most by 2^15", maker, d -> d.set(3, Long.MAX_VALUE, 1L << 15), 3, Desks.limitAnd(-2), ZERO);
        check.refused("the most by 2^15 - 1", maker, d -> d.set(3, Long.MAX_VALUE, odd));
        check.refused("the least by 1", maker, d -> d.set(3, Long.MIN_VALUE, 1));
        check.refused("the most by 1", maker, d -> d.set(3, Long.MAX_VALUE, 1));
    }

    private static void add() {
        check.about("3: the sum of the balls of two places: both middles, both radii");
        check.taken("above 0 and below 0", with(5, 2, -7, 3), d -> d.add(2, 0, 1), 2, -2, 5);
        check.taken("both below 0", with(-5, 2, -7, 3), d -> d.add(2, 0, 1), 2, -12, 5);
        check.taken("to 0", with(7, 0, -7, 0), d -> d.add(2, 0, 1), 2, 0, 0);
        check.taken("one place for all", with(5, 2), d -> d.add(0, 0, 0), 0, 10, 4);
        check.taken("into the second", with(5, 2, 7, 3), d -> d.add(1, 0, 1), 1, 12, 5);
        check.taken("up to a limb", with((1L << 32) - 1, 0, 1, (1L << 32) - 1), d -> d.add(2, 0, 1), 2, 1L << 32, (1L << 32) - 1);

        check.about("3: what is no ball");
        Supplier<BallDesk> below = with(Desks.limitAnd(-1), ZERO, UNIT, ZERO);
        check.taken("middle up to the limit", below, d -> d.add(2, 0, 1), 2, LIMIT, ZERO);
        check.refused("middle a part above", with(LIMIT, ZERO, UNIT, ZERO), d -> d.add(2, 0, 1));
        Supplier<BallDesk> above = with(Desks.limitAnd(-1).negate(), ZERO, UNIT.negate(), ZERO);
        check.taken("middle down to the limit", above, d -> d.add(2, 0, 1), 2, MINUS_LIMIT, ZERO);
        check.refused("middle a part below", with(MINUS_LIMIT, ZERO, UNIT.negate(), ZERO), d -> d.add(2, 0, 1));
        check.taken("from both limits", with(LIMIT, ZERO, MINUS_LIMIT, ZERO), d -> d.add(2, 0, 1), 2, ZERO, ZERO);
        check.taken("twice the half", with(LIMIT.shiftRight(1), ZERO), d -> d.add(0, 0, 0), 0, LIMIT, ZERO);
        check.refused("twice a part more", with(LIMIT.shiftRight(1).add(UNIT), ZERO), d -> d.add(0, 0, 0));
        check.taken("radius up to the limit", with(ZERO, Desks.limitAnd(-1), ZERO, UNIT), d -> d.add(2, 0, 1), 2, ZERO, LIMIT);
        check.refused("radius a part above", with(ZERO, LIMIT, ZERO, UNIT), d -> d.add(2, 0, 1));
        check.refused("both limits twice", with(LIMIT, LIMIT), d -> d.add(0, 0, 0));
    }

    private static void take() {
        check.about("4: the middles' difference, both radii");
        check.taken("less", with(5, 2, 7, 3), d -> d.take(2, 0, 1), 2, -2, 5);
        check.taken("the other way", with(5, 2, 7, 3), d -> d.take(2, 1, 0), 2, 2, 5);
        check.taken("from itself", with(5, 2), d -> d.take(0, 0, 0), 0, 0, 4);
        check.taken("into the second", with(5, 2, -7, 3), d -> d.take(1, 0, 1), 1, 12, 5);
        check.taken("down from a limb", with(1L << 32, 0, 1, 0), d -> d.take(2, 0, 1), 2, (1L << 32) - 1, 0);

        check.about("4: what is no ball");
        Supplier<BallDesk> below = with(Desks.limitAnd(-1), ZERO, UNIT.negate(), ZERO);
        check.taken("middle up to the limit", below, d -> d.take(2, 0, 1), 2, LIMIT, ZERO);
        check.refused("middle a part above", with(LIMIT, ZERO, UNIT.negate(), ZERO), d -> d.take(2, 0, 1));
        Supplier<BallDesk> above = with(Desks.limitAnd(-1).negate(), ZERO, UNIT, ZERO);
        check.taken("middle down to the limit", above, d -> d.take(2, 0, 1), 2, MINUS_LIMIT, ZERO);
        check.refused("middle a part below", with(MINUS_LIMIT, ZERO, UNIT, ZERO), d -> d.take(2, 0, 1));
        check.taken("the limit from itself", with(LIMIT, ZERO), d -> d.take(0, 0, 0), 0, ZERO, ZERO);
        check.refused("both limits", with(LIMIT, ZERO, MINUS_LIMIT, ZERO), d -> d.take(2, 0, 1));
        check.taken("radius up to the limit", with(ZERO, Desks.limitAnd(-1), ZERO, UNIT), d -> d.take(2, 0, 1), 2, ZERO, LIMIT);
        check.refused("radius a part above", with(ZERO, LIMIT, ZERO, UNIT), d -> d.take(2, 0, 1));
        check.refused("radius above, though from itself", with(ZERO, LIMIT), d -> d.take(0, 0, 0));
    }

    private static void times() {
        check.about("5: the middles' : 2^P");
        long[][] middles = {{1, 1, 0}, {-1, 1, -1}, {-1, -1, 0}, {256, 256, 1}, {255, 257, 0}, {256, 257, 1}, {-256, 256, -1},
            {-255, 257, -1}, {-256, 257, -2}, {-256, -256, 1}, {-256, -257, 1}, {0, -5, 0}, {ONE, -7, -7}, {1L << 40, 1L << 20, 1L << 44}};
        for (long[] row : middles) {
            Supplier<BallDesk> maker = with(row[0], 0, row[1], 0);
            check.taken(row[0] + " times " + row[1], maker, d -> d.times(2, 0, 1), 2, row[2], 1);
            check.taken(row[1] + " times " + row[0], maker, d -> d.times(2, 1, 0), 2, row[2], 1);
        }

        check.about("5: the radius is the least number that times 2^P is not below (..), and 1");
        long[][] radii = {{0, 0, 0, 0, 1}, {ONE, 0, 0, 3, 4}, {ONE + 1, 0, 0, 3, 5}, {ONE - 1, 0, 0, 3, 4}, {-ONE, 0, 0, 3, 4},
            {-ONE - 1, 0, 0, 3, 5}, {0, 256, 0, 256, 2}, {0, 255, 0, 257, 2}, {0, 256, 0, 257, 3}, {0, 1, 0, 1, 2},
            {ONE, 1, -ONE, 2, 5}, {ONE, 256, ONE, 256, 514}, {-ONE, 255, -ONE, 257, 514}, {ONE, 257, ONE, 256, 516}};
        for (long[] row : radii) {
            Supplier<BallDesk> maker = with(row[0], row[1], row[2], row[3]);
            BigInteger middle = Desks.big(row[0] / ONE * row[2]);
            String call = row[0] + " and " + row[1] + " times " + row[2] + " and " + row[3];
            check.taken(call, maker, d -> d.times(2, 0, 1), 2, middle, Desks.big(row[4]));
            check.taken(call + ", the other way", maker, d -> d.times(2, 1, 0), 2, middle, Desks.big(row[4]));
        }

        check.about("5: what is no ball");
        BigInteger root = UNIT.shiftLeft(40);
        check.taken("middle up to the limit", with(root, ZERO), d -> d.times(0, 0, 0), 0, LIMIT, UNIT);
        check.refused("middle above", with(root.add(UNIT), ZERO), d -> d.times(0, 0, 0));
        // 2^80 + 1 is 65537 times another number: rounded down, it is just the limit, but not so with its sign turned.
        BigInteger other = UNIT.shiftLeft(80).add(UNIT).divide(Desks.big(65537));
        check.taken("middle rounded down to the limit", with(Desks.big(65537), ZERO, other, ZERO), d -> d.times(2, 0, 1), 2, LIMIT, UNIT);
        check.refused("middle rounded down, a part below", with(Desks.big(-65537), ZERO, other, ZERO), d -> d.times(2, 0, 1));
        check.refused("the same with the other's sign", with(Desks.big(65537), ZERO, other.negate(), ZERO), d -> d.times(2, 1, 0));
        check.taken("down to the limit", with(LIMIT, ZERO, Desks.big(-ONE), ZERO), d -> d.times(2, 0, 1), 2, MINUS_LIMIT, UNIT);
        check.taken("radius up to the limit", with(ZERO, Desks.limitAnd(-1), Desks.big(ONE), ZERO), d -> d.times(2, 0, 1), 2, ZERO, LIMIT);
        check.refused("radius a part above", with(ZERO, LIMIT, Desks.big(ONE), ZERO), d -> d.times(2, 0, 1));
        check.refused("both at both limits", with(LIMIT, LIMIT), d -> d.times(0, 0, 0));
    }

    private static void over() {
        check.about("6: BAD, unless the second one's middle, without its sign, M, is above its radius R");
        for (int sign = -1; sign < 2; sign += 2) {
            check.taken("M is R + 1", with(0, 0, sign * 5, 4), d -> d.over(2, 0, 1), 2, 0, 1);
            check.refused("M is R", with(0, 0, sign * 5, 5), d -> d.over(2, 0, 1));
            check.refused("M is R - 1", with(0, 0, sign * 5, 6), d -> d.over(2, 0, 1));
            check.taken("M is 1, R 0", with(0, 0, sign, 0), d -> d.over(2, 0, 1), 2, 0, 1);
            check.refused("M is R is 1", with(0, 0, sign, 1), d -> d.over(2, 0, 1));
            BigInteger most = sign < 0 ? MINUS_LIMIT : LIMIT;
            check.taken("M the most", with(ZERO, ZERO, most, Desks.limitAnd(-1)), d -> d.over(2, 0, 1), 2, ZERO, UNIT);
            check.refused("R the most", with(ZERO, ZERO, most, LIMIT), d -> d.over(2, 0, 1));
        }
        check.refused("M is R is 0", with(7, 0, 0, 0), d -> d.over(2, 0, 1));
        check.refused("M is 0, R 1", with(7, 0, 0, 1), d -> d.over(2, 0, 1));
        check.taken("by itself", with(7, 0), d -> d.over(0, 0, 0), 0, ONE, 1);
        check.refused("by itself, M is R", with(7, 7), d -> d.over(0, 0, 0));

        check.about("6: (the first one's 2^P) : M, with the first one's sign turned if the second one's is below 0");
        long[][] middles = {{1, 3, 21845}, {-1, 3, -21846}, {1, -3, -21846}, {-1, -3, 21845}, {0, -3, 0}, {3, 3, ONE}, {-3, 3, -ONE},
            {3, -3, -ONE}, {-3, -3, ONE}, {1, ONE, 1}, {1, ONE + 1, 0}, {-1, ONE, -1}, {-1, ONE + 1, -1}, {1, -ONE - 1, -1},
            {-1, -ONE - 1, 0}, {-1, ONE - 1, -2}, {1, ONE - 1, 1}};
        for (long[] row : middles) {
            check.taken(row[0] + " over " + row[1], with(row[0], 0, row[1], 0), d -> d.over(2, 0, 1), 2, row[2], 1);
        }

        check.about("6: the radius is the least number that times M (M - R) is not below (..), and 1");
        long[][] radii = {{0, 0, ONE, 0, 1}, {0, 3, ONE, 0, 4}, {0, 3, ONE + 1, 0, 4}, {0, 3, ONE - 1, 0, 5}, {0, 3, -ONE, 0, 4},
            {0, 3, 1 - ONE, 0, 5}, {ONE, 0, ONE, 1, 3}, {ONE - 1, 0, ONE, 1, 2}, {-ONE, 0, ONE, 1, 3}, {1 - ONE, 0, ONE, 1, 2},
            {2, 0, 2, 1, ONE + 1}, {3, 5, 2, 1, (3 + 10) * ONE / 2 + 1}, {-3, 5, -2, 1, (3 + 10) * ONE / 2 + 1}, {1, 0, 3, 2, 2 * ONE / 3 + 2}};
        for (long[] row : radii) {
            long middle = Math.floorDiv((row[2] < 0 ? -row[0] : row[0]) * ONE, Math.abs(row[2]));
            String call = row[0] + " and " + row[1] + " over " + row[2] + " and " + row[3];
            check.taken(call, with(row[0], row[1], row[2], row[3]), d -> d.over(2, 0, 1), 2, middle, row[4]);
        }

        check.about("6: what is no ball");
        BigInteger near = LIMIT.subtract(Desks.big(MOST));
        BigInteger less = Desks.big(ONE - 1);
        check.taken("middle up to the limit", with(near, ZERO, less, ZERO), d -> d.over(2, 0, 1), 2, LIMIT, UNIT);
        check.refused("middle a part above", with(near.add(UNIT), ZERO, less, ZERO), d -> d.over(2, 0, 1));
        check.taken("middle down to the limit", with(near.negate(), ZERO, less, ZERO), d -> d.over(2, 0, 1), 2, MINUS_LIMIT, UNIT);
        check.taken("the same, signs turned", with(near, ZERO, less.negate(), ZERO), d -> d.over(2, 0, 1), 2, MINUS_LIMIT, UNIT);
        check.refused("middle below", with(near.add(UNIT).negate(), ZERO, less, ZERO), d -> d.over(2, 0, 1));
        check.taken("radius up to the limit", with(ZERO, Desks.limitAnd(-1), Desks.big(ONE), ZERO), d -> d.over(2, 0, 1), 2, ZERO, LIMIT);
        check.refused("radius a part above", with(ZERO, LIMIT, Desks.big(ONE), ZERO), d -> d.over(2, 0, 1));
        check.refused("the most by the least", with(LIMIT, LIMIT, UNIT, ZERO), d -> d.over(2, 0, 1));
    }

    private static void root() {
        check.about("7: BAD for LOW below 0");
        check.taken("LOW is 0 and HIGH too", with(0, 0), d -> d.root(2, 0), 2, 0, 1);
        check.taken("LOW is 0", with(8, 8), d -> d.root(2, 0), 2, 512, 513);
        check.refused("LOW is - 1", with(8, 9), d -> d.root(2, 0));
        check.refused("LOW is - 1, HIGH too", with(-1, 0), d -> d.root(2, 0));
        check.refused("LOW is - 2, HIGH 0", with(-1, 1), d -> d.root(2, 0));
        check.taken("LOW is 1", with(1, 0), d -> d.root(2, 0), 2, 256, 1);
        check.refused("LOW is the least", with(MINUS_LIMIT, LIMIT), d -> d.root(2, 0));
        check.taken("HIGH is the most", with(LIMIT, LIMIT), d -> d.root(2, 0), 2, 777472127994L, 777472127994L);
        check.refused("its own place", with(8, 9), d -> d.root(0, 0));

        check.about("7: ends ROOT(LOW 2^P), ROOT(HIGH 2^P) + 1");
        long[][] rows = {{4, 4, 512, 1}, {ONE - 1, ONE - 1, ONE - 1, 1}, {ONE, ONE, ONE, 1}, {ONE + 1, ONE + 1, ONE, 1},
            {4 * ONE, 4 * ONE, 2 * ONE, 1}, {4 * ONE - 1, 4 * ONE - 1, 2 * ONE - 1, 1}, {ONE, 4 * ONE, 98304, 32769},
            {ONE - 1, 4 * ONE - 1, 98303, 32769}, {2, 2, 362, 1}, {0, 2, 181, 182}};
        for (long[] row : rows) {
            Supplier<BallDesk> maker = Desks.made(d -> Desks.putEnds(d, 0, row[0], row[1]));
            check.taken("of " + row[0] + " to " + row[1], maker, d -> d.root(2, 0), 2, row[2], row[3]);
        }
    }

    private static void exp() {
        check.about("8: BAD for LOW below - 16 2^P, HIGH above 16 2^P");
        long end = 16 * ONE;
        check.taken("LOW at the end", with(-end, 0), d -> d.exp(2, 0), 2, 1, 1);
        check.taken("LOW a part before it", with(1 - end, 0), d -> d.exp(2, 0), 2, 1, 1);
        check.refused("LOW a part below it", with(-end - 1, 0), d -> d.exp(2, 0));
        check.refused("LOW a part below it, the middle not", with(-end, 1), d -> d.exp(2, 0));
        check.taken("HIGH at the end", with(end, 0), d -> d.exp(2, 0), 2, 582360139072L, 2);
        check.taken("HIGH a part before it", with(end - 1, 0), d -> d.exp(2, 0), 2, 582351253029L, 2);
        check.refused("HIGH a part above it", with(end + 1, 0), d -> d.exp(2, 0));
        check.refused("HIGH a part above it, the middle not", with(end, 1), d -> d.exp(2, 0));
        check.taken("both at their ends", with(0, end), d -> d.exp(2, 0), 2, 291180069537L, 291180069537L);
        check.refused("both a part beyond", with(0, end + 1), d -> d.exp(2, 0));
        check.refused("only LOW beyond", with(-1, end), d -> d.exp(2, 0));
        check.refused("only HIGH beyond", with(1, end), d -> d.exp(2, 0));
        check.refused("the widest", with(ZERO, LIMIT), d -> d.exp(2, 0));
        check.refused("its own place", with(1, end), d -> d.exp(0, 0));

        check.about("8: (EXP(LOW 2^64) : 2^64) - 1 (but not below 0)");
        check.taken("e^-12 is below 1 part", with(-12 * ONE, 0), d -> d.exp(2, 0), 2, 1, 1);
        check.taken("e^-11 is 1 part", with(-11 * ONE, 0), d -> d.exp(2, 0), 2, 1, 2);
        check.taken("e^-10 is 2 parts", with(-10 * ONE, 0), d -> d.exp(2, 0), 2, 2, 2);

        check.about("8: ends (EXP(LOW 2^64) : 2^64) - 1, (EXP(HIGH 2^64) : 2^64) + 2");
        check.taken("of 0", with(0, 0), d -> d.exp(2, 0), 2, ONE, 2);
        check.taken("of 0 and a part", with(1, 0), d -> d.exp(2, 0), 2, ONE + 1, 2);
        check.taken("of a part less", with(-1, 0), d -> d.exp(2, 0), 2, ONE - 1, 2);
        check.taken("of 1", with(ONE, 0), d -> d.exp(2, 0), 2, 178145, 2);
        check.taken("of - 1 to 1", with(0, ONE), d -> d.exp(2, 0), 2, 101127, 77020);
    }

    private static void log() {
        check.about("9: BAD for LOW below 1");
        check.taken("LOW is 1", with(1, 0), d -> d.log(2, 0), 2, -726818, 2);
        check.taken("LOW is 1, HIGH 3", with(2, 1), d -> d.log(2, 0), 2, -690818, 36001);
        check.refused("LOW is 0, HIGH 4", with(2, 2), d -> d.log(2, 0));
        check.refused("LOW is 0 and HIGH too", with(0, 0), d -> d.log(2, 0));
        check.refused("LOW is - 1, HIGH 1", with(0, 1), d -> d.log(2, 0));
        check.refused("both below 0", with(-1, 0), d -> d.log(2, 0));
        check.taken("HIGH the most", with(LIMIT, Desks.limitAnd(-1)), d -> d.log(2, 0), 2, 749530, 1476350);
        check.refused("LOW is 0, HIGH the most", with(LIMIT, LIMIT), d -> d.log(2, 0));
        check.refused("LOW the least", with(MINUS_LIMIT, LIMIT), d -> d.log(2, 0));
        check.refused("its own place", with(2, 2), d -> d.log(0, 0));

        check.about("9: ends (LOG(LOW 2^64) : 2^64) - 1, (LOG(HIGH 2^64) : 2^64) + 2");
        long[][] rows = {{ONE - 1, -2}, {ONE, 0}, {ONE + 1, 0}, {2 * ONE - 1, 45425}, {2 * ONE, 45426}, {2 * ONE + 1, 45426},
            {43690, -26574}, {43691, -26573}, {87381, 18853}, {87382, 18854}, {2, -681392}, {3, -654819}};
        for (long[] row : rows) {
            check.taken("of " + row[0], with(row[0], 0), d -> d.log(2, 0), 2, row[1], 2);
        }
        check.taken("of 2^48", with(LIMIT, ZERO), d -> d.log(2, 0), 2, 2180452, 2);
    }

    private static void arc() {
        check.about("10: ends (ATAN(LOW 2^64) : 2^64) - 1, (ATAN(HIGH 2^64) : 2^64) + 2");
        long[][] rows = {{0, 0}, {1, 0}, {-1, -1}, {ONE - 1, 51471}, {ONE, 51471}, {ONE + 1, 51472}, {1 - ONE, -51472}, {-ONE, -51472},
            {-ONE - 1, -51473}, {2 * ONE, 72558}};
        for (long[] row : rows) {
            check.taken("of " + row[0], with(row[0], 0), d -> d.arc(2, 0), 2, row[1], 2);
        }

        check.about("10: every ball has an arc");
        check.taken("of the most", with(LIMIT, ZERO), d -> d.arc(2, 0), 2, 102943, 2);
        check.taken("of the least", with(MINUS_LIMIT, ZERO), d -> d.arc(2, 0), 2, -102944, 2);
        check.taken("of the widest", with(ZERO, LIMIT), d -> d.arc(2, 0), 2, 0, 102945);
        check.taken("HIGH twice the limit", with(LIMIT, LIMIT), d -> d.arc(2, 0), 2, 51472, 51473);
        check.taken("LOW twice the limit", with(MINUS_LIMIT, LIMIT), d -> d.arc(2, 0), 2, -51472, 51474);
    }

    private static void sine() {
        check.about("11: BAD for a middle, without its sign, above 2^(P + 20)");
        long end = 1L << 36;
        check.taken("at the end", with(end, 0), d -> d.sine(2, 0, false), 2, 21659, 2);
        check.taken("cosine at the end", with(end, 0), d -> d.sine(2, 0, true), 2, 61853, 2);
        check.taken("at the other end", with(-end, 0), d -> d.sine(2, 0, false), 2, -21660, 2);
        check.taken("cosine at the other end", with(-end, 0), d -> d.sine(2, 0, true), 2, 61853, 2);
        for (boolean cosine : new boolean[] {false, true}) {
            check.refused("a part above, " + cosine, with(end + 1, 0), d -> d.sine(2, 0, cosine));
            check.refused("a part below the other, " + cosine, with(-end - 1, 0), d -> d.sine(2, 0, cosine));
            check.refused("the most, " + cosine, with(LIMIT, ZERO), d -> d.sine(0, 0, cosine));
            check.refused("the least, " + cosine, with(MINUS_LIMIT, ZERO), d -> d.sine(0, 0, cosine));
        }
        check.taken("LOW and HIGH may be beyond", with(end, 5 * end), d -> d.sine(2, 0, false), 2, 21659, 5 * end + 2);
        for (int bits : new int[] {17, 44, 191, 192}) {
            Supplier<BallDesk> maker = Desks.made(bits, d -> {
                d.set(0, 1L << 20, 1);
                d.set(1, -(1L << 20), 1);
                d.set(2, (1L << 20) * 3 + 1, 3);
                d.set(3, -(1L << 20) * 3 - 1, 3);
                d.set(4, 1, 1L << Math.min(bits, 62));
                d.add(5, 0, 4);
                d.take(6, 1, 4);
            });
            BallDesk desk = maker.get();
            check.due(bits + " bits: at the end", desk.sine(7, 0, false), 1);
            check.due(bits + " bits: at the other end", desk.sine(7, 1, true), 1);
            for (int k : new int[] {2, 3, 5, 6}) {
                check.refused(bits + " bits: beyond it, place " + k, maker, d -> d.sine(7, k, k % 2 == 0));
            }
        }

        check.about("11: the radius 2 more");
        check.taken("2 from 0", with(0, 0), d -> d.sine(2, 0, false), 2, 0, 2);
        check.taken("5 from 3", with(0, 3), d -> d.sine(2, 0, false), 2, 0, 5);
        check.taken("up to the limit", with(ZERO, Desks.limitAnd(-2)), d -> d.sine(2, 0, false), 2, ZERO, LIMIT);
        check.refused("a part above", with(ZERO, Desks.limitAnd(-1)), d -> d.sine(2, 0, false));
        check.refused("two parts above, cosine", with(ZERO, LIMIT), d -> d.sine(2, 0, true));

        turns();
    }

    /** Half of PI has 102943.7 parts: sines and cosines just before and behind each quarter of a turn. */
    private static void turns() {
        check.about("11: SIN(t): n is (2 t + PI) : (2 PI) .. minus that for odd n");
        long[][] rows = {{0, 0, 65535}, {1, 0, 65535}, {-1, -1, 65535}, {102943, 65535, 0}, {102944, 65535, -1}, {205887, 0, -65536},
            {205888, -1, -65536}, {308831, -65536, -1}, {308832, -65536, 0}, {411774, -1, 65535}, {411775, 0, 65535},
            {-102943, -65536, 0}, {-102944, -65536, -1}, {-205887, -1, -65536}, {-205888, 0, -65536}, {-308831, 65535, -1},
            {-308832, 65535, 0}, {-411774, 0, 65535}, {-411775, -1, 65535}};
        for (long[] row : rows) {
            check.taken("sine of " + row[0], with(row[0], 0), d -> d.sine(2, 0, false), 2, row[1], 2);
            check.taken("cosine of " + row[0], with(row[0], 0), d -> d.sine(2, 0, true), 2, row[2], 2);
        }
    }

    private static void pi() {
        check.about("12: PI : 2^64, radius 2");
        int[] bits = {16, 17, 31, 32, 33};
        long[] due = {205887, 411774, 6746518852L, 13493037704L, 26986075409L};
        for (int n = 0; n < bits.length; n++) {
            for (int k : new int[] {0, 11}) {
                check.taken(bits[n] + " bits", Desks.made(bits[n], d -> { }), d -> d.pi(k), k, due[n], 2);
            }
        }
        BigInteger long191 = new BigInteger("9860048348863269281198066682114134445731725432595044866280");
        check.taken("191 bits", Desks.made(191, d -> { }), d -> d.pi(5), 5, long191, Desks.big(2));
        BigInteger long192 = new BigInteger("19720096697726538562396133364228268891463450865190089732560");
        check.taken("192 bits", Desks.made(192, d -> { }), d -> d.pi(5), 5, long192, Desks.big(2));
        for (int k : Desks.NO_PLACES) {
            check.refused("place " + k, Desks.made(d -> { }), d -> d.pi(k));
        }
        check.taken("once more", Desks.made((Consumer<BallDesk>) d -> d.pi(4)), d -> d.pi(5), 5, 205887, 2);
    }

    private static void widen() {
        check.about("13: a radius grows by a number (0 or above)");
        check.taken("by 0", with(-5, 7), d -> d.widen(0, 0), 0, -5, 7);
        check.taken("by 1", with(-5, 7), d -> d.widen(0, 1), 0, -5, 8);
        check.taken("by the most", with(-5, 7), d -> d.widen(0, Long.MAX_VALUE), 0, Desks.big(-5), Desks.big(Long.MAX_VALUE).add(Desks.big(7)));
        for (long by : new long[] {-1, -7, -8, -Long.MAX_VALUE, Long.MIN_VALUE}) {
            check.refused("by " + by, with(-5, 7), d -> d.widen(0, by));
        }

        check.about("13: what is no ball");
        check.taken("up to the limit", with(Desks.big(-5), Desks.limitAnd(-1)), d -> d.widen(0, 1), 0, Desks.big(-5), LIMIT);
        check.refused("a part above", with(Desks.big(-5), LIMIT), d -> d.widen(0, 1));
        check.refused("more at once", with(Desks.big(-5), Desks.limitAnd(-1)), d -> d.widen(0, 2));
        check.taken("by 0 there", with(Desks.big(-5), LIMIT), d -> d.widen(0, 0), 0, Desks.big(-5), LIMIT);
        BigInteger half = LIMIT.shiftRight(1);
        check.taken("by the most, up to it", with(ZERO, half.add(UNIT)), d -> d.widen(0, Long.MAX_VALUE), 0, ZERO, LIMIT);
        check.refused("by the most, above it", with(ZERO, half.add(Desks.big(2))), d -> d.widen(0, Long.MAX_VALUE));
    }

    private static void join() {
        check.about("14: the lesser one of both balls' LOW, the greater one of their HIGH");
        long[][] rows = {{1, 5, 7, 9, 5, 4}, {7, 9, 1, 5, 5, 4}, {1, 9, 3, 5, 5, 4}, {3, 5, 1, 9, 5, 4}, {1, 5, 3, 9, 5, 4}, {3, 9, 1, 5, 5, 4},
            {1, 9, 1, 9, 5, 4}, {1, 5, 1, 9, 5, 4}, {5, 9, 1, 9, 5, 4}, {-9, -1, -5, -3, -5, 4}, {-9, -5, 5, 8, -1, 9}, {-2, -2, 1, 1, -1, 2}};
        for (long[] row : rows) {
            Supplier<BallDesk> maker = Desks.made(d -> {
                put(d, 0, row[0], row[1]);
                put(d, 1, row[2], row[3]);
            });
            String call = row[0] + " to " + row[1] + " and " + row[2] + " to " + row[3];
            check.taken(call, maker, d -> d.join(2, 0, 1), 2, row[4], row[5]);
            check.taken(call + ", into the first", maker, d -> d.join(0, 0, 1), 0, row[4], row[5]);
            check.taken(call + ", into the second", maker, d -> d.join(1, 0, 1), 1, row[4], row[5]);
        }
        check.taken("with itself", with(5, 4), d -> d.join(0, 0, 0), 0, 5, 4);

        check.about("14: what is no ball");
        check.taken("radius up to the limit", with(MINUS_LIMIT, ZERO, LIMIT, ZERO), d -> d.join(2, 0, 1), 2, ZERO, LIMIT);
        check.refused("LOW a part less", with(MINUS_LIMIT, UNIT, LIMIT, ZERO), d -> d.join(2, 0, 1));
        check.refused("HIGH a part more", with(MINUS_LIMIT, ZERO, LIMIT, UNIT), d -> d.join(2, 0, 1));
        check.taken("both a part nearer", with(Desks.limitAnd(-1).negate(), UNIT, Desks.limitAnd(-1), UNIT), d -> d.join(2, 0, 1), 2, ZERO, LIMIT);
        check.refused("the widest ones", with(MINUS_LIMIT, LIMIT, LIMIT, LIMIT), d -> d.join(2, 0, 1));
        check.taken("the greatest with itself", with(LIMIT, LIMIT), d -> d.join(0, 0, 0), 0, LIMIT, LIMIT);
        check.taken("the least with itself", with(MINUS_LIMIT, LIMIT), d -> d.join(0, 0, 0), 0, MINUS_LIMIT, LIMIT);
    }

    /** From low to high, in parts; where they are not both odd or even, as the ends of two points. */
    private static void put(BallDesk desk, int k, long low, long high) {
        Desks.put(desk, 9, low, 0);
        Desks.put(desk, 10, high, 0);
        desk.join(k, 9, 10);
    }
}
