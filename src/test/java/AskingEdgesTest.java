import java.math.BigInteger;
import java.util.function.Supplier;
import java.util.function.ToIntFunction;

/** Promises 15 to 20: each sentence that names a boundary, on both sides of it; asking changes nothing. */
public final class AskingEdgesTest {
    private static final long ONE = Desks.ONE;
    private static final long MOST = Desks.MOST;
    private static final long LIMB = 1L << 32;
    private static final BigInteger LIMIT = Desks.LIMIT;
    private static final BigInteger MINUS_LIMIT = Desks.LIMIT.negate();
    private static final BigInteger ZERO = BigInteger.ZERO;
    private static final BigInteger UNIT = BigInteger.ONE;
    private static final int BAD = BallDesk.BAD;

    private static final Check check = new Check();

    public static void main(String[] args) {
        lies();
        holds();
        limb();
        digit();
        sure();
        count();
        check.end("AskingEdgesTest");
    }

    /** A call that asks must leave all balls as they are, whatever it answers. */
    private static void answers(String call, Supplier<BallDesk> maker, ToIntFunction<BallDesk> asked, int due) {
        check.refused(call, maker, asked, due);
    }

    private static Supplier<BallDesk> with(long middle, long radius) {
        return with(Desks.big(middle), Desks.big(radius));
    }

    private static Supplier<BallDesk> with(BigInteger middle, BigInteger radius) {
        return Desks.made(d -> Desks.put(d, 0, middle, radius));
    }

    /** Both from low to high, in parts, both odd or both even. */
    private static void lie(long low, long high, long otherLow, long otherHigh, int due) {
        Supplier<BallDesk> maker = Desks.made(d -> {
            Desks.putEnds(d, 0, low, high);
            Desks.putEnds(d, 1, otherLow, otherHigh);
        });
        answers("lies, " + low + " to " + high + " and " + otherLow + " to " + otherHigh, maker, d -> d.lies(0, 1), due);
    }

    private static void lies() {
        check.about("15: BELOW (the first one's HIGH is below the second one's LOW)");
        lie(2, 6, 7, 9, BallDesk.BELOW);
        lie(2, 6, 6, 10, BallDesk.ACROSS);
        lie(2, 6, 5, 9, BallDesk.ACROSS);
        lie(-9, -7, -6, -2, BallDesk.BELOW);
        lie(-1, -1, 0, 0, BallDesk.BELOW);

        check.about("15: ABOVE");
        lie(7, 9, 2, 6, BallDesk.ABOVE);
        lie(6, 10, 2, 6, BallDesk.ACROSS);
        lie(5, 9, 2, 6, BallDesk.ACROSS);
        lie(0, 0, -1, -1, BallDesk.ABOVE);

        check.about("15: SAME (both LOW and HIGH)");
        lie(2, 6, 2, 6, BallDesk.SAME);
        lie(0, 0, 0, 0, BallDesk.SAME);
        lie(-6, -2, -6, -2, BallDesk.SAME);
        lie(2, 6, 2, 8, BallDesk.WITHIN);
        lie(2, 6, 0, 6, BallDesk.WITHIN);
        lie(2, 6, -6, -2, BallDesk.ABOVE);

        check.about("15: WITHIN (the first one in the second one)");
        lie(3, 5, 2, 6, BallDesk.WITHIN);
        lie(2, 4, 2, 6, BallDesk.WITHIN);
        lie(4, 6, 2, 6, BallDesk.WITHIN);
        lie(2, 2, 2, 6, BallDesk.WITHIN);
        lie(6, 6, 2, 6, BallDesk.WITHIN);
        lie(1, 5, 2, 6, BallDesk.ACROSS);
        lie(3, 7, 2, 6, BallDesk.ACROSS);

        check.about("15: AROUND (the second one in the first one)");
        lie(2, 6, 3, 5, BallDesk.AROUND);
        lie(2, 6, 2, 4, BallDesk.AROUND);
        lie(2, 6, 4, 6, BallDesk.AROUND);
        lie(2, 6, 2, 2, BallDesk.AROUND);
        lie(2, 6, 6, 6, BallDesk.AROUND);

        check.about("15: else ACROSS");
        lie(2, 6, 1, 5, BallDesk.ACROSS);
        lie(2, 6, 3, 7, BallDesk.ACROSS);
        lie(-3, 3, -1, 5, BallDesk.ACROSS);
        lie(2, 6, 1, 1, BallDesk.ABOVE);
        lie(2, 6, 7, 7, BallDesk.BELOW);

        check.about("15: the longest balls");
        Supplier<BallDesk> longest = Desks.made(d -> {
            Desks.put(d, 0, LIMIT, LIMIT);
            Desks.put(d, 1, MINUS_LIMIT, LIMIT);
            Desks.put(d, 2, LIMIT, Desks.limitAnd(-1));
        });
        answers("they meet at 0", longest, d -> d.lies(0, 1), BallDesk.ACROSS);
        answers("a part from 0", longest, d -> d.lies(1, 2), BallDesk.BELOW);
        answers("a part from 0, the other way", longest, d -> d.lies(2, 1), BallDesk.ABOVE);
        answers("a part narrower", longest, d -> d.lies(2, 0), BallDesk.WITHIN);
        answers("one place twice", longest, d -> d.lies(0, 0), BallDesk.SAME);
    }

    private static void holds() {
        long fine = 1L << 46;
        check.about("16: whether a by b is in a ball: from LOW on");
        answers("LOW", with(10, 4), d -> d.holds(0, 6, ONE), 1);
        answers("a part below", with(10, 4), d -> d.holds(0, 5, ONE), 0);
        answers("less than a part below", with(10, 4), d -> d.holds(0, 6 * fine - 1, ONE * fine), 0);
        answers("less than a part above", with(10, 4), d -> d.holds(0, 6 * fine + 1, ONE * fine), 1);
        answers("LOW below 0", with(-10, 4), d -> d.holds(0, -14, ONE), 1);
        answers("less than a part below, below 0", with(-10, 4), d -> d.holds(0, -14 * fine - 1, ONE * fine), 0);

        check.about("16: whether a by b is in a ball: up to HIGH");
        answers("HIGH", with(10, 4), d -> d.holds(0, 14, ONE), 1);
        answers("a part above", with(10, 4), d -> d.holds(0, 15, ONE), 0);
        answers("less than a part above", with(10, 4), d -> d.holds(0, 14 * fine + 1, ONE * fine), 0);
        answers("less than a part below", with(10, 4), d -> d.holds(0, 14 * fine - 1, ONE * fine), 1);
        answers("HIGH below 0", with(-10, 4), d -> d.holds(0, -6, ONE), 1);
        answers("less than a part above, below 0", with(-10, 4), d -> d.holds(0, -6 * fine + 1, ONE * fine), 0);

        check.about("16: a ball of radius 0 holds one number");
        answers("it", with(0, 0), d -> d.holds(0, 0, Long.MAX_VALUE), 1);
        answers("a little more", with(0, 0), d -> d.holds(0, 1, Long.MAX_VALUE), 0);
        answers("a little less", with(0, 0), d -> d.holds(0, -1, Long.MAX_VALUE), 0);
        answers("1", with(ONE, 0), d -> d.holds(0, Long.MAX_VALUE, Long.MAX_VALUE), 1);
        answers("- 1", with(-ONE, 0), d -> d.holds(0, -Long.MAX_VALUE, Long.MAX_VALUE), 1);
        answers("a little below - 1", with(-ONE, 0), d -> d.holds(0, Long.MIN_VALUE, Long.MAX_VALUE), 0);

        check.about("16: the longest numbers");
        answers("2^48", with(LIMIT, ZERO), d -> d.holds(0, MOST, 1), 1);
        answers("a little less", with(LIMIT, ZERO), d -> d.holds(0, Long.MAX_VALUE, 1L << 15), 0);
        answers("- 2^48", with(MINUS_LIMIT, ZERO), d -> d.holds(0, Long.MIN_VALUE, 1L << 15), 1);
        answers("the least", with(MINUS_LIMIT, LIMIT), d -> d.holds(0, Long.MIN_VALUE, 1), 0);
        answers("the most", with(LIMIT, LIMIT), d -> d.holds(0, Long.MAX_VALUE, 1), 0);
        answers("HIGH of all", with(LIMIT, LIMIT), d -> d.holds(0, 2 * MOST, 1), 1);
        answers("above HIGH of all", with(LIMIT, LIMIT), d -> d.holds(0, 2 * MOST + 1, 1), 0);

        check.about("16: (b above 0) .. BAD");
        answers("by 1", with(0, ONE), d -> d.holds(0, 1, 1), 1);
        for (long b : new long[] {0, -1, -Long.MAX_VALUE, Long.MIN_VALUE}) {
            answers("by " + b, with(0, ONE), d -> d.holds(0, 1, b), BAD);
            answers("0 by " + b, with(0, ONE), d -> d.holds(0, 0, b), BAD);
        }
    }

    private static void limb() {
        check.about("17: part 0 the middle, 1 the radius, 2 LOW, 3 HIGH");
        long[] due = {10, 4, 6, 14};
        for (int part = 0; part < 4; part++) {
            int told = part;
            answers("part " + part, with(10, 4), d -> (int) d.limb(0, told, 0), (int) due[part]);
        }

        check.about("17: - 2: no such place or part");
        for (int part : new int[] {-1, 4, -2, 5, Integer.MIN_VALUE, Integer.MAX_VALUE}) {
            for (int limb : new int[] {-1, 0}) {
                answers("part " + part, with(10, 4), d -> (int) d.limb(0, part, limb), -2);
            }
        }
        for (int k : Desks.NO_PLACES) {
            for (int limb : new int[] {-1, 0}) {
                answers("place " + k, with(10, 4), d -> (int) d.limb(k, 0, limb), -2);
            }
            answers("place " + k + " and part 4", with(10, 4), d -> (int) d.limb(k, 4, 0), -2);
        }

        check.about("17: limb - 1 the sign (- 1, 0, 1)");
        long[][] signs = {{1, 0, 1, 0, 1, 1}, {0, 0, 0, 0, 0, 0}, {-1, 0, -1, 0, -1, -1}, {5, 5, 1, 1, 0, 1}, {5, 6, 1, 1, -1, 1},
            {5, 4, 1, 1, 1, 1}, {-5, 5, -1, 1, -1, 0}, {-5, 6, -1, 1, -1, 1}, {-5, 4, -1, 1, -1, -1}, {0, 1, 0, 1, -1, 1}};
        for (long[] row : signs) {
            for (int part = 0; part < 4; part++) {
                int told = part;
                String call = row[0] + " and " + row[1] + ": sign of part " + part;
                answers(call, with(row[0], row[1]), d -> (int) d.limb(0, told, -1), (int) row[2 + part]);
            }
        }

        check.about("17: numbers of 32 bits (0 .. 4,294,967,295), the lowest first, as many as it has (one for 0)");
        limbs(ZERO, 0);
        limbs(UNIT, 1);
        limbs(UNIT.negate(), 1);
        limbs(Desks.big(LIMB - 1), LIMB - 1);
        limbs(Desks.big(LIMB), 0, 1);
        limbs(Desks.big(-LIMB), 0, 1);
        limbs(Desks.big(1 - LIMB), LIMB - 1);
        limbs(Desks.big(3 * LIMB + 2), 2, 3);
        limbs(Desks.limitAnd(-1), LIMB - 1, LIMB - 1);
        limbs(LIMIT, 0, 0, 1);
        limbs(MINUS_LIMIT, 0, 0, 1);
        longestLimbs();

        check.about("17: Throws IndexOutOfBounds: a limb that it has not");
        for (int limb : new int[] {2, 3, 24, -2, -3, Integer.MIN_VALUE, Integer.MAX_VALUE}) {
            noLimb(with(LIMB, LIMB), 0, limb);
            noLimb(with(LIMB, LIMB), 1, limb);
        }
        for (int limb : new int[] {1, -2}) {
            for (int part = 0; part < 4; part++) {
                noLimb(with(0, 0), part, limb);
            }
        }
        noLimb(with(LIMB, 1), 2, 1);
        noLimb(with(LIMB - 1, 1), 0, 1);
        noLimb(with(1 - LIMB, 1), 3, 1);
        check.due("LOW has a limb less than the middle", with(LIMB, 1).get().limb(0, 0, 1), 1);
        check.due("HIGH has a limb more than the middle", with(LIMB - 1, 1).get().limb(0, 3, 1), 1);
        check.due("LOW has a limb more, below 0", with(1 - LIMB, 1).get().limb(0, 2, 1), 1);
    }

    private static void limbs(BigInteger middle, long... due) {
        BallDesk desk = with(middle, ZERO).get();
        for (int n = 0; n < due.length; n++) {
            check.due(middle + ": limb " + n, desk.limb(0, 0, n), due[n]);
        }
        check.noLimb(desk, 0, 0, due.length);
    }

    /** Of 192 bits the longest middle has 241 bits, the longest HIGH 242: 8 limbs each. */
    private static void longestLimbs() {
        BallDesk desk = new BallDesk(192);
        desk.set(0, MOST, 1);
        desk.set(1, -MOST, 1);
        desk.join(2, 0, 1);
        desk.add(3, 2, 0);
        for (int n = 0; n < 7; n++) {
            check.due("2^240: limb " + n, desk.limb(3, 0, n), 0);
            check.due("2^241: limb " + n, desk.limb(3, 3, n), 0);
        }
        check.due("2^240: limb 7", desk.limb(3, 0, 7), 1L << 16);
        check.due("2^241: limb 7", desk.limb(3, 3, 7), 1L << 17);
        check.noLimb(desk, 3, 0, 8);
        check.noLimb(desk, 3, 3, 8);
        check.due("LOW is 0", desk.limb(3, 2, 0), 0);
        check.noLimb(desk, 3, 2, 1);
    }

    private static void noLimb(Supplier<BallDesk> maker, int part, int limb) {
        BallDesk tried = maker.get();
        check.noLimb(tried, 0, part, limb);
        check.unchanged("limb(0, " + part + ", " + limb + ")", tried, maker.get(), -1);
    }

    private static void digit() {
        Supplier<BallDesk> third = Desks.made(192, d -> d.set(0, -1000001, 3));
        check.about("18: the d-th behind the point (d 1 .. 60)");
        answers("first", third, d -> d.digit(0, 1), 6);
        answers("57th", third, d -> d.digit(0, 57), 6);
        answers("last", third, d -> d.digit(0, 60), digitOfThird(60));
        for (int d = 51; d <= 60; d++) {
            int told = d;
            answers("d " + d, third, x -> x.digit(0, told), digitOfThird(d));
        }
        for (int d : new int[] {61, 62, 1000, Integer.MAX_VALUE}) {
            answers("d " + d, third, x -> x.digit(0, d), BAD);
        }

        check.about("18: before it (d 0 .. - 14, 0 the last one)");
        Supplier<BallDesk> most = with(MINUS_LIMIT, ZERO);
        String digits = "281474976710656";
        for (int d = 0; d >= -14; d--) {
            int told = d;
            answers("- 2^48, d " + d, most, x -> x.digit(0, told), digits.charAt(14 + d) - '0');
        }
        for (int d : new int[] {-15, -16, -1000, Integer.MIN_VALUE}) {
            answers("- 2^48, d " + d, most, x -> x.digit(0, d), BAD);
        }

        check.about("18: (M 10^d) : 2^P .. M : 2^P : 10^(-d), its last digit");
        long[][] rows = {{ONE - 1, 0, 0}, {ONE, 0, 1}, {-ONE, 0, 1}, {1 - ONE, 0, 0}, {10 * ONE - 1, 0, 9}, {10 * ONE, 0, 0}, {10 * ONE - 1, -1, 0},
            {10 * ONE, -1, 1}, {ONE - 1, 1, 9}, {ONE, 1, 0}, {6553, 1, 0}, {6554, 1, 1}, {-6553, 1, 0}, {-6554, 1, 1}, {0, 1, 0}, {0, 60, 0},
            {0, -14, 0}, {1, 16, 5}, {1, 17, 0}, {1, 5, 1}, {1, 4, 0}, {100 * ONE - 1, -2, 0}, {-100 * ONE, -2, 1}};
        for (long[] row : rows) {
            answers(row[0] + " parts, d " + row[1], with(row[0], 3), d -> d.digit(0, (int) row[1]), (int) row[2]);
        }
    }

    /** 333333.66.. in parts of 2^192, rounded: the digits that are there, not those of the third. */
    private static int digitOfThird(int d) {
        BigInteger third = Desks.big(1000001).shiftLeft(192).divide(Desks.big(3)).add(UNIT);
        return third.multiply(BigInteger.TEN.pow(d)).shiftRight(192).mod(BigInteger.TEN).intValue();
    }

    private static void sure() {
        check.about("19: The greatest d, 0 .. 60");
        answers("radius 0", with(ONE / 3, 0), d -> d.sure(0), 60);
        answers("radius 0, below 0", with(-ONE / 3, 0), d -> d.sure(0), 60);
        answers("0", with(0, 0), d -> d.sure(0), 60);
        answers("the most", with(LIMIT, ZERO), d -> d.sure(0), 60);
        Supplier<BallDesk> third = Desks.made(192, d -> d.set(0, 1, 3));
        answers("a third of 192 bits", third, d -> d.sure(0), 57);
        ends(ONE, 2 * ONE - 2, 0);
        ends(ONE, ONE + 2, 4);
        ends(6554, 13106, 1);
        ends(6554, 13108, 0);
        ends(6552, 13106, 0);

        check.about("19: for which (LOW 10^d) : 2^P is the same as (HIGH 10^d) : 2^P; - 1: not even for 0");
        ends(ONE, 2 * ONE, -1);
        ends(ONE - 2, 2 * ONE - 2, -1);
        ends(0, ONE - 2, 0);
        ends(0, ONE, -1);
        ends(-2, ONE - 2, -1);
        ends(-2, 2, -1);
        ends(-2, 0, -1);
        ends(-3, -1, 4);
        ends(-ONE, -2, 0);
        ends(-ONE, 0, -1);
        ends(-ONE - 2, -2, -1);
        ends(-ONE - 2, -ONE, -1);
        ends(-2 * ONE, -ONE - 2, 0);
        answers("the widest", with(ZERO, LIMIT), d -> d.sure(0), -1);
        answers("the greatest", with(LIMIT, LIMIT), d -> d.sure(0), -1);

        check.about("19: - 2: no such place");
        answers("place 0", with(0, 0), d -> d.sure(0), 60);
        answers("place 11", with(0, 0), d -> d.sure(11), 60);
        for (int k : Desks.NO_PLACES) {
            answers("place " + k, with(0, 0), d -> d.sure(k), -2);
        }
    }

    private static void ends(long low, long high, int due) {
        answers(low + " to " + high, Desks.made(d -> Desks.putEnds(d, 0, low, high)), d -> d.sure(0), due);
    }

    private static void count() {
        check.about("20: 0 P .. BAD");
        for (int bits = 15; bits <= 193; bits++) {
            int due = Math.max(16, Math.min(192, bits));
            check.due("count(0) of " + bits, new BallDesk(bits).count(0), due);
        }
        for (int what : new int[] {-1, 3, -2, 4, Integer.MIN_VALUE, Integer.MAX_VALUE}) {
            answers("count(" + what + ")", () -> Desks.filled(16), d -> d.count(what), BAD);
        }

        check.about("20: 1 bits of the longest middle");
        BigInteger[] middles = {ZERO, UNIT, Desks.big(2), Desks.big(3), Desks.big(4), Desks.big(LIMB - 1), Desks.big(LIMB), Desks.big(Long.MAX_VALUE),
            LIMIT.shiftRight(1), Desks.limitAnd(-1), LIMIT};
        int[] bits = {0, 1, 2, 2, 3, 32, 33, 63, 64, 64, 65};
        for (int n = 0; n < bits.length; n++) {
            BigInteger middle = middles[n];
            answers("count(1), " + middle, alone(5, middle, ZERO), d -> d.count(1), bits[n]);
            answers("count(1), - " + middle, alone(5, middle.negate(), ZERO), d -> d.count(1), bits[n]);
            answers("count(2), " + middle + " and 0", alone(5, middle, ZERO), d -> d.count(2), 0);
        }

        check.about("20: 2 of the longest radius");
        for (int n = 0; n < bits.length; n++) {
            BigInteger radius = middles[n];
            answers("count(2), " + radius, alone(5, ZERO, radius), d -> d.count(2), bits[n]);
            answers("count(1), 0 and " + radius, alone(5, ZERO, radius), d -> d.count(1), 0);
        }

        check.about("20: the longest of all places");
        for (int k = 0; k < 12; k++) {
            BallDesk desk = new BallDesk(16);
            for (int other = 0; other < 12; other++) {
                desk.set(other, other == k ? -32 : 15, ONE);
                desk.widen(other, other == k ? 255 : 100);
            }
            check.due("count(1), longest at " + k, desk.count(1), 6);
            check.due("count(2), longest at " + k, desk.count(2), 8);
            desk.set(k, 1, ONE);
            check.due("count(1), no more at " + k, desk.count(1), 4);
            check.due("count(2), no more at " + k, desk.count(2), 7);
        }
        BallDesk desk = new BallDesk(192);
        desk.set(0, MOST, 1);
        desk.set(1, -MOST, 1);
        check.due("count(1), 2^240", desk.count(1), 241);
        check.due("count(2), 0", desk.count(2), 0);
        desk.join(2, 0, 1);
        check.due("count(2), 2^240", desk.count(2), 241);
    }

    private static Supplier<BallDesk> alone(int k, BigInteger middle, BigInteger radius) {
        return () -> {
            BallDesk desk = new BallDesk(16);
            Desks.put(desk, k, middle, radius);
            desk.set(11, 0, 1);
            return desk;
        };
    }
}
