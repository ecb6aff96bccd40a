import java.math.BigInteger;
import java.util.function.Supplier;
import java.util.function.ToLongFunction;

/** The sentences of "Terms" that name a boundary, each on both sides of it; also that of the 512 calls. */
public final class TermsTest {
    private static final long ONE = Desks.ONE;
    private static final long MOST = Desks.MOST;
    private static final BigInteger ZERO = BigInteger.ZERO;
    private static final int BAD = BallDesk.BAD;

    private static final Check check = new Check();

    public static void main(String[] args) {
        theLast512thCall();
        bitsAreTold();
        roundedDown();
        roundedDownTwice();
        middleNotAboveLimit();
        middleNotAboveLimitByAPart();
        radiusNotAboveLimit();
        limitOfProducts();
        limitOfQuotients();
        limitIsForEachAlone();
        radiusNotBelowNothing();
        lowAndHigh();
        standsForAllFromLowToHigh();
        placesAtFirst();
        placesFirstAndLast();
        greatestRoot();
        rangeOfExp();
        rangeOfLog();
        ends();
        badWithoutPlace();
        badNumber();
        badNoBall();
        otherwiseOne();
        check.end("TermsTest");
    }

    /** Calls that were made before; an object has 512 in all. */
    private static void use(BallDesk desk, int calls) {
        for (int n = 0; n < calls; n++) {
            switch (n % 8) {
                case 0: desk.set(9, n - 200, 7); break;
                case 1: desk.times(10, 9, 9); break;
                case 2: desk.arc(11, 10); break;
                case 3: desk.sine(11, 9, true); break;
                case 4: desk.exp(10, 9); break;
                case 5: desk.sure(11); break;
                case 6: desk.over(11, 11, 9); break;
                default: desk.widen(9, -1); break;
            }
        }
    }

    private static void theLast512thCall() {
        check.about("An object is used for at most 512 calls after it has been made");
        asLast("set(0, 1, 3)", 21845, d -> d.set(0, 1, 3) == 1 ? 21845 : BAD);
        asLast("limb(1, 0, 0)", 3 * ONE, d -> d.limb(1, 0, 0));
        asLast("limb(1, 0, -1)", 1, d -> d.limb(1, 0, -1));
        asLast("digit(1, 0)", 3, d -> d.digit(1, 0));
        asLast("lies(1, 2)", BallDesk.BELOW, d -> d.lies(1, 2));
        asLast("holds(2, 5, 1)", 1, d -> d.holds(2, 5, 1));
        asLast("sure(2)", 60, d -> d.sure(2));
        asLast("count(0)", 16, d -> d.count(0));
        asLast("add(0, 1, 12)", BAD, d -> d.add(0, 1, 12));
        asLast("root(0, 2)", 1, d -> d.root(0, 2));
        asLast("log(0, 2)", 1, d -> d.log(0, 2));
        asLast("pi(0)", 1, d -> d.pi(0));
        BallDesk desk = new BallDesk(16);
        desk.set(1, 1, ONE);
        for (int n = 0; n < 510; n++) {
            desk.add(0, 0, 1);
        }
        check.due("limb, after 510 parts were added one by one", desk.limb(0, 0, 0), 510);
    }

    private static void asLast(String call, long due, ToLongFunction<BallDesk> asked) {
        BallDesk desk = new BallDesk(16);
        desk.set(1, 3, 1);
        desk.set(2, 5, 1);
        use(desk, 509);
        check.due("as the 512th call: " + call, asked.applyAsLong(desk), due);
    }

    private static void bitsAreTold() {
        check.about("P is told (16 .. 192)");
        for (int bits = 16; bits <= 192; bits++) {
            BallDesk desk = new BallDesk(bits);
            check.due("count(0) of " + bits, desk.count(0), bits);
            desk.set(0, -1, 1);
            check.ball("- 1, of " + bits, desk, 0, Desks.minus(BigInteger.ONE.shiftLeft(bits)), ZERO);
        }
    }

    private static void roundedDown() {
        check.about("a : b (b above 0) is a by b, rounded down");
        long[][] rows = {{1, 2, 0}, {2, 2, 1}, {3, 2, 1}, {-1, 2, -1}, {-2, 2, -1}, {-3, 2, -2}, {0, 2, 0},
            {6, 7, 0}, {7, 7, 1}, {8, 7, 1}, {-6, 7, -1}, {-7, 7, -1}, {-8, 7, -2}};
        for (long[] row : rows) {
            BallDesk desk = new BallDesk(16);
            desk.set(0, row[0], row[1] * ONE);
            check.due(row[0] + " : " + row[1], Check.part(desk, 0, Check.MIDDLE), Desks.big(row[2]));
        }
        for (int bits = 16; bits <= 192; bits++) {
            BallDesk desk = new BallDesk(bits);
            BigInteger one = BigInteger.ONE.shiftLeft(bits);
            desk.set(0, 1, 3);
            desk.set(1, -1, 3);
            BigInteger third = one.divide(Desks.big(3));
            check.ball("2^" + bits + " : 3", desk, 0, third, BigInteger.ONE);
            check.ball("- 2^" + bits + " : 3", desk, 1, Desks.minus(third).subtract(BigInteger.ONE), BigInteger.ONE);
        }
    }

    private static void roundedDownTwice() {
        check.about("a : b : c is (a : b) : c");
        BallDesk desk = new BallDesk(16);
        desk.set(0, 99 * ONE + 65535, ONE);
        check.due("99.99998: its tens", desk.digit(0, -1), 9);
        check.due("99.99998: its hundreds", desk.digit(0, -2), 0);
        desk.set(0, -100, 1);
        check.due("- 100: its tens", desk.digit(0, -1), 0);
        check.due("- 100: its hundreds", desk.digit(0, -2), 1);
    }

    private static void middleNotAboveLimit() {
        check.about("A BALL has a MIDDLE .. not above 2^(P + 48) without its sign");
        for (int bits = 16; bits <= 192; bits++) {
            Supplier<BallDesk> maker = Desks.made(bits, d -> d.set(0, 5, 1));
            BigInteger limit = BigInteger.ONE.shiftLeft(bits + 48);
            check.taken(bits + " bits: set to 2^48", maker, d -> d.set(1, MOST, 1), 1, limit, ZERO);
            check.taken(bits + " bits: set to - 2^48", maker, d -> d.set(1, -MOST, 1), 1, Desks.minus(limit), ZERO);
            check.refused(bits + " bits: set to 2^48 + 1", maker, d -> d.set(1, MOST + 1, 1));
            check.refused(bits + " bits: set to - 2^48 - 1", maker, d -> d.set(1, -MOST - 1, 1));
        }
    }

    /** Leaves middle 1 at place k; its radius is small, but not 0. */
    private static void leastMiddle(BallDesk desk, int k) {
        desk.set(k, -1, 1L << 62);
        desk.set(9, 1, 1L << Math.min(62, desk.count(0)));
        for (int n = 0; n < 4; n++) {
            desk.times(k, k, 9);
        }
        desk.set(9, 0, 1);
        desk.take(k, 9, k);
    }

    private static void middleNotAboveLimitByAPart() {
        check.about("A BALL has a MIDDLE .. not above 2^(P + 48), not even by a part");
        for (int bits = 16; bits <= 192; bits++) {
            BigInteger limit = BigInteger.ONE.shiftLeft(bits + 48);
            Supplier<BallDesk> maker = Desks.made(bits, d -> {
                leastMiddle(d, 0);
                d.set(1, MOST, 1);
                d.set(2, -MOST, 1);
                d.take(3, 1, 0);
                d.add(4, 2, 0);
            });
            BallDesk desk = maker.get();
            check.due(bits + " bits: the least middle", Check.part(desk, 0, Check.MIDDLE), BigInteger.ONE);
            check.due(bits + " bits: a part below", Check.part(desk, 3, Check.MIDDLE), limit.subtract(BigInteger.ONE));
            check.due(bits + " bits: a part above the least", Check.part(desk, 4, Check.MIDDLE), BigInteger.ONE.subtract(limit));
            BigInteger radius = Check.part(desk, 0, Check.RADIUS);
            BigInteger twice = radius.add(radius);
            check.taken(bits + " bits: up to it", maker, d -> d.add(5, 3, 0), 5, limit, twice);
            check.refused(bits + " bits: above it", maker, d -> d.add(5, 1, 0));
            check.taken(bits + " bits: down to it", maker, d -> d.take(5, 4, 0), 5, limit.negate(), twice);
            check.refused(bits + " bits: below it", maker, d -> d.take(5, 2, 0));
        }
    }

    private static void radiusNotAboveLimit() {
        check.about("A BALL has .. a RADIUS .. not above 2^(P + 48)");
        for (int bits = 16; bits <= 192; bits++) {
            BigInteger limit = BigInteger.ONE.shiftLeft(bits + 48);
            Supplier<BallDesk> maker = Desks.made(bits, d -> {
                d.set(0, MOST, 1);
                d.set(1, -MOST, 1);
                d.join(2, 0, 1);
                d.set(3, MOST / 2, 1);
                d.set(4, -MOST / 2, 1);
                d.join(5, 3, 4);
                d.join(6, 3, 4);
                d.widen(6, 1);
            });
            check.taken(bits + " bits: join up to it", maker, d -> d.join(7, 0, 1), 7, ZERO, limit);
            check.taken(bits + " bits: widen by 0 there", maker, d -> d.widen(2, 0), 2, ZERO, limit);
            check.refused(bits + " bits: widen by a part there", maker, d -> d.widen(2, 1));
            check.taken(bits + " bits: add up to it", maker, d -> d.add(7, 5, 5), 7, ZERO, limit);
            check.refused(bits + " bits: add above it by a part", maker, d -> d.add(7, 5, 6));
            check.taken(bits + " bits: take up to it", maker, d -> d.take(7, 5, 5), 7, ZERO, limit);
            check.refused(bits + " bits: take above it by a part", maker, d -> d.take(7, 6, 5));
        }
    }

    private static void limitOfProducts() {
        check.about("neither above 2^(P + 48): a product");
        for (int bits = 16; bits <= 192; bits++) {
            BigInteger limit = BigInteger.ONE.shiftLeft(bits + 48);
            Supplier<BallDesk> maker = Desks.made(bits, d -> {
                d.set(0, 1L << 24, 1);
                d.set(1, -(1L << 24), 1);
                d.set(2, (1L << 40) + 1, ONE);
                d.set(3, 1, 1);
                d.set(4, MOST - 1, 1);
                d.set(5, 1 - MOST, 1);
                d.join(6, 4, 5);
                d.set(4, MOST, 1);
                d.set(5, -MOST, 1);
                d.join(7, 4, 5);
            });
            check.taken(bits + " bits: middle up to it", maker, d -> d.times(8, 0, 0), 8, limit, BigInteger.ONE);
            check.taken(bits + " bits: middle down to it", maker, d -> d.times(8, 0, 1), 8, limit.negate(), BigInteger.ONE);
            check.refused(bits + " bits: middle above it", maker, d -> d.times(8, 0, 2));
            check.refused(bits + " bits: middle below it", maker, d -> d.times(8, 2, 1));
            BigInteger before = limit.subtract(BigInteger.ONE.shiftLeft(bits)).add(BigInteger.ONE);
            check.taken(bits + " bits: radius before it", maker, d -> d.times(8, 6, 3), 8, ZERO, before);
            check.refused(bits + " bits: radius a part above it", maker, d -> d.times(8, 7, 3));
        }
    }

    private static void limitOfQuotients() {
        check.about("neither above 2^(P + 48): a quotient");
        for (int bits = 16; bits <= 192; bits++) {
            BigInteger limit = BigInteger.ONE.shiftLeft(bits + 48);
            Supplier<BallDesk> maker = Desks.made(bits, d -> {
                d.set(0, MOST, 1);
                d.set(1, -MOST, 1);
                d.set(2, 1, 1);
                d.set(3, ONE - 1, ONE);
                d.set(4, -1, 1);
                d.join(5, 0, 1);
                d.set(6, ONE + 1, ONE);
            });
            check.taken(bits + " bits: middle up to it", maker, d -> d.over(8, 0, 2), 8, limit, BigInteger.ONE);
            check.taken(bits + " bits: middle down to it", maker, d -> d.over(8, 0, 4), 8, limit.negate(), BigInteger.ONE);
            check.refused(bits + " bits: middle above it", maker, d -> d.over(8, 0, 3));
            check.refused(bits + " bits: middle below it", maker, d -> d.over(8, 1, 3));
            check.refused(bits + " bits: radius a part above it", maker, d -> d.over(8, 5, 2));
            check.due(bits + " bits: radius before it", maker.get().over(8, 5, 6), 1);
        }
    }

    private static void limitIsForEachAlone() {
        check.about("neither above 2^(P + 48): each alone; LOW and HIGH may be");
        Supplier<BallDesk> maker = Desks.made(d -> {
            Desks.put(d, 0, Desks.LIMIT, Desks.limitAnd(-1));
            Desks.put(d, 1, Desks.minus(Desks.LIMIT), Desks.limitAnd(-1));
        });
        BigInteger twice = Desks.LIMIT.add(Desks.LIMIT);
        check.taken("widen at the greatest middle", maker, d -> d.widen(0, 1), 0, Desks.LIMIT, Desks.LIMIT);
        check.taken("widen at the least middle", maker, d -> d.widen(1, 1), 1, Desks.minus(Desks.LIMIT), Desks.LIMIT);
        BallDesk desk = maker.get();
        desk.widen(0, 1);
        desk.widen(1, 1);
        check.due("greatest HIGH", Check.part(desk, 0, Check.HIGH), twice);
        check.due("LOW of that", Check.part(desk, 0, Check.LOW), ZERO);
        check.due("least LOW", Check.part(desk, 1, Check.LOW), twice.negate());
        check.due("HIGH of that", Check.part(desk, 1, Check.HIGH), ZERO);
    }

    private static void radiusNotBelowNothing() {
        check.about("a RADIUS (0 or above)");
        Supplier<BallDesk> maker = Desks.made(d -> Desks.put(d, 0, 7, 3));
        check.taken("widen by 0", maker, d -> d.widen(0, 0), 0, 7, 3);
        check.refused("widen by - 1", maker, d -> d.widen(0, -1));
        check.refused("widen by - 3", maker, d -> d.widen(0, -3));
        check.refused("widen by - 4", maker, d -> d.widen(0, -4));
        check.taken("take: the radii are added", maker, d -> d.take(1, 0, 0), 1, 0, 6);
        check.taken("set: radius 0", maker, d -> d.set(0, 7, 1), 0, 7 * ONE, 0);
    }

    private static void lowAndHigh() {
        check.about("LOW is the middle less the radius, HIGH the middle and the radius");
        long[][] rows = {{0, 0}, {5, 0}, {5, 4}, {5, 5}, {5, 6}, {-5, 0}, {-5, 4}, {-5, 5}, {-5, 6}, {0, 1},
            {1L << 32, 1}, {(1L << 32) - 1, 1}, {-(1L << 32), 1}, {1 - (1L << 32), 1}, {1L << 40, 1L << 41}};
        for (long[] row : rows) {
            BallDesk desk = new BallDesk(16);
            Desks.put(desk, 0, row[0], row[1]);
            String ball = row[0] + " and " + row[1];
            check.due(ball + ": LOW", Check.part(desk, 0, Check.LOW), Desks.big(row[0] - row[1]));
            check.due(ball + ": HIGH", Check.part(desk, 0, Check.HIGH), Desks.big(row[0] + row[1]));
        }
    }

    private static void standsForAllFromLowToHigh() {
        check.about("It stands for all numbers from LOW by 2^P to HIGH by 2^P");
        BallDesk desk = new BallDesk(16);
        Desks.putEnds(desk, 0, -3, 5);
        long fine = 1L << 40;
        check.due("LOW", desk.holds(0, -3, ONE), 1);
        check.due("a little below LOW", desk.holds(0, -3 * fine - 1, ONE * fine), 0);
        check.due("a little above LOW", desk.holds(0, -3 * fine + 1, ONE * fine), 1);
        check.due("HIGH", desk.holds(0, 5, ONE), 1);
        check.due("a little below HIGH", desk.holds(0, 5 * fine - 1, ONE * fine), 1);
        check.due("a little above HIGH", desk.holds(0, 5 * fine + 1, ONE * fine), 0);
    }

    private static void placesAtFirst() {
        check.about("PLACES 0 .. 11 have balls, at first of 0 and 0");
        for (int bits : new int[] {16, 17, 64, 191, 192}) {
            BallDesk desk = new BallDesk(bits);
            for (int k = 0; k < 12; k++) {
                check.ball("new, " + bits + " bits", desk, k, 0, 0);
                check.due("lies(" + k + ", 0), " + bits + " bits", desk.lies(k, 0), BallDesk.SAME);
            }
        }
    }

    private static void placesFirstAndLast() {
        check.about("PLACES 0 .. 11: each has a ball of its own, those beside them have none");
        BallDesk desk = new BallDesk(16);
        for (int k = 0; k < 12; k++) {
            check.due("set(" + k + ", ..)", desk.set(k, 100 + k, 1), 1);
        }
        for (int k = 0; k < 12; k++) {
            check.ball("set one after the other", desk, k, (100 + k) * ONE, 0);
        }
        for (int k : Desks.NO_PLACES) {
            check.refused("set(" + k + ", 1, 1)", () -> Desks.filled(16), d -> d.set(k, 1, 1));
        }
    }

    private static void greatestRoot() {
        check.about("ROOT(v): the greatest number whose square is at most v");
        for (int bits = 16; bits <= 192; bits++) {
            Supplier<BallDesk> maker = Desks.made(bits, d -> {
                d.set(0, 9, 4);
                d.set(1, 9, 4);
                d.widen(1, 1);
                d.set(2, 2, 1);
                d.set(3, 0, 1);
            });
            BigInteger root = Desks.big(3).shiftLeft(bits - 1);
            check.taken(bits + " bits: of a square", maker, d -> d.root(5, 0), 5, root, BigInteger.ONE);
            BigInteger two = BigInteger.TWO.shiftLeft(2 * bits).sqrt();
            check.taken(bits + " bits: of 2", maker, d -> d.root(5, 2), 5, two, BigInteger.ONE);
            check.taken(bits + " bits: of 0", maker, d -> d.root(5, 3), 5, ZERO, BigInteger.ONE);
            BallDesk desk = maker.get();
            desk.root(5, 1);
            check.due(bits + " bits: a part below a square", Check.part(desk, 5, Check.LOW), root.subtract(BigInteger.ONE));
            check.due(bits + " bits: a part above a square", Check.part(desk, 5, Check.HIGH), root.add(BigInteger.ONE));
        }
    }

    private static void rangeOfExp() {
        check.about("EXP(t), t from - 16 2^Q to 16 2^Q");
        for (int bits : new int[] {16, 17, 32, 127, 191, 192}) {
            Supplier<BallDesk> maker = Desks.made(bits, d -> {
                d.set(0, 16, 1);
                d.set(1, -16, 1);
                d.join(2, 0, 1);
                d.widen(3, 1);
            });
            BallDesk desk = maker.get();
            check.due(bits + " bits: of 16", desk.exp(4, 0), 1);
            check.due(bits + " bits: of - 16", desk.exp(5, 1), 1);
            check.due(bits + " bits: of - 16 to 16", desk.exp(6, 2), 1);
            check.due(bits + " bits: their HIGH", Check.part(desk, 6, Check.HIGH), Check.part(desk, 4, Check.HIGH));
            for (int k = 0; k < 3; k++) {
                int wide = k;
                Supplier<BallDesk> wider = () -> {
                    BallDesk d = maker.get();
                    d.widen(wide, 1);
                    return d;
                };
                check.refused(bits + " bits: a part wider, place " + k, wider, d -> d.exp(7, wide));
            }
        }
    }

    private static void rangeOfLog() {
        check.about("LOG(t), t above 0");
        for (int bits : new int[] {16, 17, 32, 127, 191, 192}) {
            Supplier<BallDesk> maker = Desks.made(bits, d -> {
                d.set(0, 1, 1);
                d.set(1, 1, 1);
                d.set(2, 0, 1);
                d.join(0, 1, 2);
                d.join(1, 1, 2);
                d.set(3, -1, 1);
            });
            check.due(bits + " bits: LOW is 0", Check.part(maker.get(), 0, Check.LOW), ZERO);
            check.refused(bits + " bits: LOW is 0", maker, d -> d.log(5, 0));
            check.refused(bits + " bits: of 0", maker, d -> d.log(5, 2));
            check.refused(bits + " bits: of - 1", maker, d -> d.log(5, 3));
        }
        check.taken("16 bits: LOW is 1", Desks.made(d -> Desks.put(d, 0, 1, 0)), d -> d.log(5, 0), 5, -726818, 2);
    }

    private static void ends() {
        check.about("ENDS l, h make a ball: its middle is (l + h) : 2, its radius h less that");
        long[][] rows = {{0, 0, 0, 0}, {0, 1, 0, 1}, {0, 2, 1, 1}, {0, 3, 1, 2}, {1, 2, 1, 1}, {-1, 0, -1, 1}, {-2, 0, -1, 1},
            {-3, 0, -2, 2}, {-1, 1, 0, 1}, {-1, 2, 0, 2}, {-2, 1, -1, 2}, {-2, -1, -2, 1}, {-5, -2, -4, 2},
            {(1L << 32) - 1, 1L << 32, (1L << 32) - 1, 1}, {-(1L << 32), 1 - (1L << 32), -(1L << 32), 1}};
        for (long[] row : rows) {
            Supplier<BallDesk> maker = Desks.made(d -> {
                Desks.put(d, 0, row[0], 0);
                Desks.put(d, 1, row[1], 0);
            });
            check.taken("ends " + row[0] + ", " + row[1], maker, d -> d.join(2, 0, 1), 2, row[2], row[3]);
        }
    }

    private static void badWithoutPlace() {
        check.about("BAD: there is no such place .. nothing changes");
        for (Places call : Places.values()) {
            for (int at = 0; at < call.places; at++) {
                for (int k : Desks.NO_PLACES) {
                    int[] told = {0, 1, 2};
                    told[at] = k;
                    check.refused(call.text(told), () -> Places.ready(16), d -> call.on(d, told), call.unknown);
                }
            }
        }
    }

    private static void badNumber() {
        check.about("BAD: .. a number is none told here .. nothing changes");
        Supplier<BallDesk> maker = () -> Desks.filled(64);
        check.refused("set by 0", maker, d -> d.set(0, 1, 0));
        check.refused("holds by 0", maker, d -> d.holds(0, 1, 0));
        check.refused("widen by - 1", maker, d -> d.widen(0, -1));
        check.refused("digit 61", maker, d -> d.digit(0, 61));
        check.refused("digit - 15", maker, d -> d.digit(0, -15));
        check.refused("count 3", maker, d -> d.count(3));
        check.refused("root of what is below 0", maker, d -> d.root(0, 1));
        check.refused("log of what is below 0", maker, d -> d.log(0, 1));
        Supplier<BallDesk> wide = Desks.made(64, d -> d.join(2, 0, 1));
        check.refused("over what may be 0", wide, d -> d.over(0, 1, 2));
    }

    private static void badNoBall() {
        check.about("BAD: .. what would come of it is no ball: nothing changes");
        for (int bits : new int[] {16, 100, 192}) {
            Supplier<BallDesk> maker = Desks.made(bits, d -> {
                d.set(0, MOST, 1);
                d.set(1, -MOST, 1);
                d.join(2, 0, 1);
                d.set(3, 1, 2);
                d.set(4, 2, 1);
            });
            check.refused(bits + " bits: set", maker, d -> d.set(0, -MOST - 1, 1));
            check.refused(bits + " bits: add", maker, d -> d.add(0, 0, 0));
            check.refused(bits + " bits: take", maker, d -> d.take(1, 1, 0));
            check.refused(bits + " bits: times", maker, d -> d.times(4, 4, 1));
            check.refused(bits + " bits: over", maker, d -> d.over(3, 1, 3));
            check.refused(bits + " bits: sine", maker, d -> d.sine(2, 2, false));
            check.refused(bits + " bits: widen", maker, d -> d.widen(2, Long.MAX_VALUE));
        }
        Supplier<BallDesk> wider = Desks.made(d -> {
            Desks.put(d, 0, Desks.LIMIT, ZERO);
            Desks.put(d, 1, Desks.minus(Desks.LIMIT), BigInteger.ONE);
        });
        check.refused("join: ends - 2^64 - 1 and 2^64", wider, d -> d.join(0, 0, 1));
        check.refused("join: the same into the other place", wider, d -> d.join(1, 1, 0));
    }

    private static void otherwiseOne() {
        check.about("Otherwise 1");
        for (Places call : Places.values()) {
            if (call.makes) {
                BallDesk desk = Places.ready(16);
                check.due(call.text(new int[] {0, 1, 2}), call.on(desk, new int[] {0, 1, 2}), 1);
            }
        }
    }
}
