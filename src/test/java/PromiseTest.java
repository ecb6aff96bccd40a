import java.math.BigInteger;

/** The promises one by one, with answers worked out by hand: 16 bits have parts of 65536. */
public final class PromiseTest {
    private static final long ONE = 65536;
    private static final long MOST = 1L << 48;
    private static final int BAD = BallDesk.BAD;
    private static final int[] NO_PLACES = {-1, 12, Integer.MIN_VALUE, Integer.MAX_VALUE};

    private static final String PI = "31415926535897932384626433832795028841971693993751058209749445";
    private static final String E = "27182818284590452353602874713526624977572470936999595749669676";
    private static final String ONE_BY_E = "03678794411714423215955237701614608674458111310317678345078368";
    private static final String LOG_2 = "06931471805599453094172321214581765680755001343602552541206800";
    private static final String LOG_10 = "23025850929940456840179914546843642076011014886287729760333279";
    private static final String ROOT_2 = "14142135623730950488016887242096980785696718753769480731766797";
    private static final String ARC_HALF = "04636476090008061162142562314612144020285370542861202638109330";
    private static final String SINE_1 = "08414709848078965066525023216302989996225630607983710656727517";
    private static final String COSINE_1 = "05403023058681397174009366074429766037323104206179222276700972";

    private static final Check check = new Check();

    public static void main(String[] args) {
        newObject();
        set();
        add();
        take();
        times();
        over();
        root();
        exp();
        log();
        arc();
        sine();
        pi();
        widen();
        join();
        lies();
        holds();
        limb();
        digit();
        sure();
        count();
        badChangesNothing();
        sameNamesTwice();
        check.end("PromiseTest");
    }

    private static BallDesk small() {
        return new BallDesk(16);
    }

    private static void newObject() {
        int[] told = {16, 15, 0, -1, Integer.MIN_VALUE, 17, 100, 191, 192, 193, Integer.MAX_VALUE};
        int[] due = {16, 16, 16, 16, 16, 17, 100, 191, 192, 192, 192};
        for (int n = 0; n < told.length; n++) {
            BallDesk desk = new BallDesk(told[n]);
            check.due("1: count(0) of " + told[n], desk.count(0), due[n]);
            for (int k = 0; k < 12; k++) {
                check.ball("1: new", desk, k, 0, 0);
            }
            check.due("1: set at 0", desk.set(0, 1, 1), 1);
            check.ball("1: set at 0", desk, 0, BigInteger.ONE.shiftLeft(due[n]), BigInteger.ZERO);
        }
    }

    private static void set() {
        BallDesk desk = small();
        check.due("2: set", desk.set(0, 3, 2), 1);
        check.ball("2: 3 by 2", desk, 0, 98304, 0);
        desk.set(11, 1, 3);
        check.ball("2: 1 by 3", desk, 11, 21845, 1);
        desk.set(0, -1, 3);
        check.ball("2: - 1 by 3", desk, 0, -21846, 1);
        desk.set(0, 0, 7);
        check.ball("2: 0 by 7", desk, 0, 0, 0);
        desk.set(0, 1, Long.MAX_VALUE);
        check.ball("2: a little", desk, 0, 0, 1);
        desk.set(0, -1, Long.MAX_VALUE);
        check.ball("2: a little below 0", desk, 0, -1, 1);
        desk.set(0, Long.MIN_VALUE, Long.MAX_VALUE);
        check.ball("2: least by most", desk, 0, -ONE - 1, 1);
        desk.set(0, Long.MIN_VALUE, 1L << 62);
        check.ball("2: least by its half", desk, 0, -2 * ONE, 0);
        BigInteger limit = BigInteger.ONE.shiftLeft(64);
        check.due("2: 2^48", desk.set(0, MOST, 1), 1);
        check.ball("2: 2^48", desk, 0, limit, BigInteger.ZERO);
        check.due("2: - 2^48", desk.set(1, -MOST, 1), 1);
        check.ball("2: - 2^48", desk, 1, limit.negate(), BigInteger.ZERO);
        check.due("2: above 2^48", desk.set(0, MOST + 1, 1), BAD);
        check.due("2: below - 2^48", desk.set(0, -MOST - 1, 1), BAD);
        check.due("2: above 2^48 by a part", desk.set(0, (1L << 62) + 1, 1L << 14), BAD);
        check.due("2: above 2^48 by less than a part", desk.set(2, Long.MAX_VALUE, (1L << 15) - 1), BAD);
        check.due("2: the most", desk.set(0, Long.MAX_VALUE, 1), BAD);
        check.due("2: the least", desk.set(0, Long.MIN_VALUE, 1), BAD);
        check.ball("2: after BAD", desk, 0, limit, BigInteger.ZERO);
        for (long b : new long[] {0, -1, Long.MIN_VALUE}) {
            check.due("2: by " + b, desk.set(0, 1, b), BAD);
        }
        for (int k : NO_PLACES) {
            check.due("2: place " + k, desk.set(k, 1, 1), BAD);
        }
    }

    private static void add() {
        BallDesk desk = small();
        desk.set(0, 1, 3);
        desk.set(1, -2, 3);
        check.due("3: add", desk.add(2, 0, 1), 1);
        check.ball("3: 1/3 and - 2/3", desk, 2, 21845 - 43691, 2);
        desk.add(0, 0, 0);
        check.ball("3: into itself", desk, 0, 43690, 2);
        desk.set(3, MOST - 1, 1);
        desk.set(4, 1, 1);
        check.due("3: up to the limit", desk.add(5, 3, 4), 1);
        check.due("3: above the limit", desk.add(6, 5, 4), BAD);
        desk.set(7, -MOST, 1);
        desk.join(8, 5, 7);
        check.due("3: radius above the limit", desk.add(6, 8, 0), BAD);
        check.due("3: radius at the limit", desk.add(6, 8, 4), 1);
        wrongPlaces(desk, 3);
    }

    private static void take() {
        BallDesk desk = small();
        desk.set(0, 1, 3);
        desk.set(1, -2, 3);
        check.due("4: take", desk.take(2, 0, 1), 1);
        check.ball("4: 1/3 less - 2/3", desk, 2, 21845 + 43691, 2);
        desk.take(2, 1, 0);
        check.ball("4: - 2/3 less 1/3", desk, 2, -43691 - 21845, 2);
        desk.take(0, 0, 0);
        check.ball("4: from itself", desk, 0, 0, 2);
        desk.set(3, -MOST, 1);
        desk.set(4, 1, 1);
        check.due("4: below the limit", desk.take(5, 3, 4), BAD);
        check.due("4: above the limit", desk.take(5, 4, 3), BAD);
        check.ball("4: after BAD", desk, 5, 0, 0);
        wrongPlaces(desk, 4);
    }

    private static void times() {
        BallDesk desk = small();
        desk.set(0, 1, 3);
        desk.set(1, 2, 3);
        desk.set(2, -1, 3);
        check.due("5: times", desk.times(3, 0, 1), 1);
        check.ball("5: radius just a number", desk, 3, 14563, 2);
        desk.times(3, 2, 1);
        check.ball("5: below 0", desk, 3, -14564, 3);
        desk.times(3, 1, 2);
        check.ball("5: the other way", desk, 3, -14564, 3);
        desk.set(4, 2, 1);
        desk.set(5, -3, 1);
        desk.times(6, 4, 5);
        check.ball("5: whole ones", desk, 6, -6 * ONE, 1);
        desk.widen(4, 3);
        desk.widen(5, 5);
        desk.times(6, 4, 5);
        check.ball("5: both radii", desk, 6, -6 * ONE, 2 * 5 + 3 * 3 + 1 + 1);
        desk.set(7, 1L << 24, 1);
        check.due("5: at the limit", desk.times(8, 7, 7), 1);
        desk.set(7, -(1L << 24) - 1, 1);
        check.due("5: above the limit", desk.times(9, 7, 7), BAD);
        check.ball("5: after BAD", desk, 9, 0, 0);
        wrongPlaces(desk, 5);
    }

    private static void over() {
        BallDesk desk = small();
        for (int sign = 0; sign < 4; sign++) {
            desk.set(0, sign % 2 == 0 ? 1 : -1, 1);
            desk.set(1, sign / 2 == 0 ? 3 : -3, 1);
            check.due("6: over", desk.over(2, 0, 1), 1);
            check.ball("6: signs " + sign, desk, 2, sign == 0 || sign == 3 ? 21845 : -21846, 1);
        }
        desk.set(0, 1, 3);
        desk.set(1, 2, 3);
        desk.over(2, 0, 1);
        check.ball("6: radii", desk, 2, 32768, 4);
        desk.set(3, 1, 1);
        desk.set(4, 2, ONE);
        desk.widen(4, 1);
        check.due("6: M just above R", desk.over(5, 3, 4), 1);
        check.ball("6: M just above R", desk, 5, 1L << 31, (1L << 31) + 1);
        desk.widen(4, 1);
        check.due("6: M is R", desk.over(5, 3, 4), BAD);
        desk.set(4, -2, ONE);
        desk.widen(4, 2);
        check.due("6: M is R, below 0", desk.over(5, 3, 4), BAD);
        desk.widen(4, 1);
        check.due("6: M below R", desk.over(5, 3, 4), BAD);
        check.due("6: by 0", desk.over(5, 3, 11), BAD);
        desk.set(6, MOST, 1);
        desk.set(7, 1, 2);
        check.due("6: above the limit", desk.over(5, 6, 7), BAD);
        check.ball("6: after BAD", desk, 5, 1L << 31, (1L << 31) + 1);
        desk.over(6, 6, 6);
        check.ball("6: by itself", desk, 6, ONE, 1);
        wrongPlaces(desk, 6);
    }

    private static void root() {
        BallDesk desk = small();
        desk.set(0, 2, 1);
        check.due("7: root", desk.root(1, 0), 1);
        check.ball("7: of 2", desk, 1, 92681, 1);
        desk.set(0, 4, 1);
        desk.root(0, 0);
        check.ball("7: of 4", desk, 0, 131072, 1);
        desk.set(0, 0, 1);
        desk.root(1, 0);
        check.ball("7: of 0", desk, 1, 0, 1);
        desk.set(0, 5, 2);
        desk.widen(0, 98304);
        desk.root(1, 0);
        check.ball("7: of 1 to 4", desk, 1, (65536 + 131073) / 2, 131073 - (65536 + 131073) / 2);
        desk.set(0, MOST, 1);
        desk.root(1, 0);
        check.ball("7: of 2^48", desk, 1, 1L << 40, 1);
        desk.set(0, 1, ONE);
        desk.widen(0, 1);
        check.due("7: LOW 0", desk.root(1, 0), 1);
        desk.widen(0, 1);
        check.due("7: LOW below 0", desk.root(1, 0), BAD);
        desk.set(0, -1, ONE);
        check.due("7: of what is below 0", desk.root(1, 0), BAD);
        BallDesk fine = new BallDesk(192);
        fine.set(0, 2, 1);
        fine.root(1, 0);
        digits("7: root of 2", fine, 1, ROOT_2);
        wrongPlaces(desk, 7);
    }

    private static void exp() {
        BallDesk desk = small();
        check.due("8: exp", desk.exp(1, 0), 1);
        check.ball("8: of 0", desk, 1, ONE, 2);
        desk.set(0, -16, 1);
        desk.exp(1, 0);
        check.ball("8: not below 0", desk, 1, 1, 1);
        desk.widen(0, 1);
        check.due("8: LOW below - 16", desk.exp(1, 0), BAD);
        desk.set(0, 16, 1);
        check.due("8: 16", desk.exp(1, 0), 1);
        check.ball("8: of 16", desk, 1, 582360139072L, 2);
        desk.widen(0, 1);
        check.due("8: HIGH above 16", desk.exp(1, 0), BAD);
        desk.set(0, 0, 1);
        desk.widen(0, 16 * ONE);
        check.due("8: - 16 to 16", desk.exp(1, 0), 1);
        check.ball("8: - 16 to 16, ends 0 and 582360139074", desk, 1, 291180069537L, 291180069537L);
        desk.set(0, MOST, 1);
        check.due("8: far above", desk.exp(2, 0), BAD);
        desk.set(0, -MOST, 1);
        check.due("8: far below", desk.exp(2, 0), BAD);
        check.ball("8: after BAD", desk, 2, 0, 0);
        BallDesk fine = new BallDesk(192);
        fine.set(0, 1, 1);
        fine.exp(1, 0);
        digits("8: e", fine, 1, E);
        fine.set(0, -1, 1);
        fine.exp(1, 0);
        digits("8: 1 by e", fine, 1, ONE_BY_E);
        wrongPlaces(desk, 8);
    }

    private static void log() {
        BallDesk desk = small();
        desk.set(0, 1, 1);
        check.due("9: log", desk.log(1, 0), 1);
        check.ball("9: of 1", desk, 1, 0, 2);
        desk.set(0, 1, ONE);
        check.due("9: LOW 1", desk.log(1, 0), 1);
        check.ball("9: of the least", desk, 1, -726818, 2);
        desk.widen(0, 1);
        check.due("9: LOW 0", desk.log(1, 0), BAD);
        desk.set(0, -1, 1);
        check.due("9: below 0", desk.log(1, 0), BAD);
        check.due("9: of 0", desk.log(1, 2), BAD);
        desk.set(0, MOST, 1);
        check.due("9: of 2^48", desk.log(1, 0), 1);
        check.ball("9: of 2^48", desk, 1, 2180452, 2);
        BallDesk fine = new BallDesk(192);
        fine.set(0, 2, 1);
        fine.log(1, 0);
        digits("9: log of 2", fine, 1, LOG_2);
        fine.set(0, 10, 1);
        fine.log(1, 0);
        digits("9: log of 10", fine, 1, LOG_10);
        fine.set(0, 1, 10);
        fine.log(2, 0);
        fine.add(2, 1, 2);
        check.due("9: log of 10 and of 1 by 10", fine.holds(2, 0, 1), 1);
        wrongPlaces(desk, 9);
    }

    private static void arc() {
        BallDesk desk = small();
        check.due("10: arc", desk.arc(1, 0), 1);
        check.ball("10: of 0", desk, 1, 0, 2);
        desk.set(0, 1, 1);
        desk.arc(1, 0);
        check.ball("10: of 1", desk, 1, 51471, 2);
        desk.set(0, -1, 1);
        desk.arc(1, 0);
        check.ball("10: of - 1", desk, 1, -51472, 2);
        desk.set(0, MOST, 1);
        desk.arc(1, 0);
        check.ball("10: of 2^48", desk, 1, 102943, 2);
        desk.set(0, -MOST, 1);
        desk.arc(1, 0);
        check.ball("10: of - 2^48", desk, 1, -102944, 2);
        desk.set(0, 0, 1);
        desk.widen(0, ONE);
        desk.arc(1, 0);
        check.ball("10: of - 1 to 1", desk, 1, 0, 51473);
        BallDesk fine = new BallDesk(192);
        fine.set(0, 1, 2);
        fine.arc(1, 0);
        digits("10: of a half", fine, 1, ARC_HALF);
        fine.set(0, 2, 1);
        fine.arc(2, 0);
        fine.add(2, 1, 2);
        fine.add(2, 2, 2);
        fine.pi(3);
        check.due("10: of a half and of 2", fine.lies(3, 2), BallDesk.WITHIN);
        wrongPlaces(desk, 10);
    }

    private static void sine() {
        BallDesk desk = small();
        check.due("11: sine", desk.sine(1, 0, false), 1);
        check.ball("11: of 0", desk, 1, 0, 2);
        check.due("11: cosine", desk.sine(1, 0, true), 1);
        check.ball("11: cosine of 0", desk, 1, 65535, 2);
        desk.set(0, 1, 1);
        desk.widen(0, 5);
        desk.sine(1, 0, false);
        check.ball("11: of 1", desk, 1, 55146, 7);
        desk.sine(1, 0, true);
        check.ball("11: cosine of 1", desk, 1, 35409, 7);
        desk.set(0, -1, 1);
        desk.sine(1, 0, false);
        check.ball("11: of - 1", desk, 1, -55147, 2);
        desk.set(0, 4, 1);
        desk.sine(1, 0, false);
        check.ball("11: of 4, past the first turn", desk, 1, -49598, 2);
        for (long sign = -1; sign < 2; sign += 2) {
            desk.set(0, sign << 20, 1);
            check.due("11: 2^20", desk.sine(1, 0, false), 1);
            check.due("11: cosine, 2^20", desk.sine(1, 0, true), 1);
            desk.set(0, sign * ((1L << 36) + 1), ONE);
            check.due("11: above 2^20", desk.sine(2, 0, false), BAD);
            check.due("11: cosine, above 2^20", desk.sine(2, 0, true), BAD);
        }
        check.ball("11: after BAD", desk, 2, 0, 0);
        desk.set(0, MOST, 1);
        desk.set(3, -MOST, 1);
        desk.join(4, 0, 3);
        check.due("11: radius above the limit", desk.sine(5, 4, false), BAD);
        BallDesk fine = new BallDesk(192);
        fine.set(0, 1, 1);
        fine.sine(1, 0, false);
        digits("11: sine of 1", fine, 1, SINE_1);
        fine.sine(1, 0, true);
        digits("11: cosine of 1", fine, 1, COSINE_1);
        wrongPlaces(desk, 11);
    }

    private static void pi() {
        BallDesk desk = small();
        check.due("12: pi", desk.pi(7), 1);
        check.ball("12: pi", desk, 7, 205887, 2);
        for (int k : NO_PLACES) {
            check.due("12: place " + k, desk.pi(k), BAD);
        }
        BallDesk fine = new BallDesk(192);
        fine.pi(0);
        digits("12: pi", fine, 0, PI);
        check.due("12: radius", Check.part(fine, 0, Check.RADIUS), BigInteger.TWO);
    }

    private static void widen() {
        BallDesk desk = small();
        desk.set(0, -5, 1);
        check.due("13: widen", desk.widen(0, 7), 1);
        check.ball("13: by 7", desk, 0, -5 * ONE, 7);
        check.due("13: by 0", desk.widen(0, 0), 1);
        desk.widen(0, 3);
        check.ball("13: by 3 more", desk, 0, -5 * ONE, 10);
        check.due("13: by - 1", desk.widen(0, -1), BAD);
        check.due("13: by the least", desk.widen(0, Long.MIN_VALUE), BAD);
        check.ball("13: after BAD", desk, 0, -5 * ONE, 10);
        BigInteger limit = BigInteger.ONE.shiftLeft(64);
        desk.widen(1, Long.MAX_VALUE);
        desk.widen(1, Long.MAX_VALUE);
        check.due("13: to the limit", desk.widen(1, 2), 1);
        check.ball("13: to the limit", desk, 1, BigInteger.ZERO, limit);
        check.due("13: above the limit", desk.widen(1, 1), BAD);
        check.ball("13: above the limit", desk, 1, BigInteger.ZERO, limit);
        for (int k : NO_PLACES) {
            check.due("13: place " + k, desk.widen(k, 1), BAD);
        }
    }

    private static void join() {
        BallDesk desk = small();
        desk.set(0, 1, 1);
        desk.set(1, 3, 1);
        check.due("14: join", desk.join(2, 0, 1), 1);
        check.ball("14: 1 and 3", desk, 2, 2 * ONE, ONE);
        desk.join(2, 1, 0);
        check.ball("14: 3 and 1", desk, 2, 2 * ONE, ONE);
        desk.join(3, 2, 0);
        check.ball("14: one in the other", desk, 3, 2 * ONE, ONE);
        desk.set(4, 1, ONE);
        desk.join(5, 4, 11);
        check.ball("14: ends 0 and 1", desk, 5, 0, 1);
        desk.set(4, -1, ONE);
        desk.join(4, 4, 11);
        check.ball("14: ends - 1 and 0", desk, 4, -1, 1);
        desk.set(6, -MOST, 1);
        desk.set(7, MOST, 1);
        check.due("14: up to the limit", desk.join(8, 6, 7), 1);
        check.ball("14: up to the limit", desk, 8, BigInteger.ZERO, BigInteger.ONE.shiftLeft(64));
        desk.widen(6, 1);
        check.due("14: above the limit", desk.join(9, 6, 7), BAD);
        check.ball("14: after BAD", desk, 9, 0, 0);
        wrongPlaces(desk, 14);
    }

    private static void lies() {
        BallDesk desk = small();
        interval(desk, 0, 2, 6);
        long[][] other = {{7, 9}, {6, 9}, {-3, 1}, {-3, 2}, {2, 6}, {1, 7}, {2, 7}, {1, 6}, {3, 5}, {2, 5}, {3, 6}, {3, 7}, {1, 5}};
        int[] due = {BallDesk.BELOW, BallDesk.ACROSS, BallDesk.ABOVE, BallDesk.ACROSS, BallDesk.SAME, BallDesk.WITHIN,
            BallDesk.WITHIN, BallDesk.WITHIN, BallDesk.AROUND, BallDesk.AROUND, BallDesk.AROUND, BallDesk.ACROSS, BallDesk.ACROSS};
        for (int n = 0; n < due.length; n++) {
            interval(desk, 1, other[n][0], other[n][1]);
            check.due("15: 2 to 6 beside " + other[n][0] + " to " + other[n][1], desk.lies(0, 1), due[n]);
        }
        check.due("15: itself", desk.lies(0, 0), BallDesk.SAME);
        interval(desk, 2, -6, -2);
        check.due("15: below 0", desk.lies(2, 0), BallDesk.BELOW);
        check.due("15: above what is below 0", desk.lies(0, 2), BallDesk.ABOVE);
        for (int k : NO_PLACES) {
            check.due("15: place " + k, desk.lies(k, 0), BAD);
            check.due("15: place " + k, desk.lies(0, k), BAD);
        }
    }

    private static void interval(BallDesk desk, int k, long low, long high) {
        desk.set(10, low, 1);
        desk.set(11, high, 1);
        desk.join(k, 10, 11);
    }

    private static void holds() {
        BallDesk desk = small();
        desk.set(0, 1, 3);
        desk.set(1, -1, 3);
        check.due("16: a third", desk.holds(0, 1, 3), 1);
        check.due("16: LOW", desk.holds(0, 21844, ONE), 1);
        check.due("16: below LOW", desk.holds(0, 2184399999L, ONE * 100000), 0);
        check.due("16: HIGH", desk.holds(0, 21846, ONE), 1);
        check.due("16: above HIGH", desk.holds(0, 2184600001L, ONE * 100000), 0);
        check.due("16: minus a third", desk.holds(1, -1, 3), 1);
        check.due("16: the other sign", desk.holds(1, 1, 3), 0);
        desk.set(2, -1, 1);
        check.due("16: just it", desk.holds(2, -Long.MAX_VALUE, Long.MAX_VALUE), 1);
        check.due("16: a little below", desk.holds(2, Long.MIN_VALUE, Long.MAX_VALUE), 0);
        check.due("16: the least", desk.holds(2, Long.MIN_VALUE, 1), 0);
        check.due("16: the most", desk.holds(2, Long.MAX_VALUE, 1), 0);
        check.due("16: 0", desk.holds(3, 0, Long.MAX_VALUE), 1);
        for (long b : new long[] {0, -1, Long.MIN_VALUE}) {
            check.due("16: by " + b, desk.holds(0, 1, b), BAD);
        }
        for (int k : NO_PLACES) {
            check.due("16: place " + k, desk.holds(k, 0, 1), BAD);
        }
    }

    private static void limb() {
        BallDesk desk = new BallDesk(40);
        for (int part = 0; part < 4; part++) {
            check.due("17: sign of 0", desk.limb(0, part, -1), 0);
            check.due("17: limb of 0", desk.limb(0, part, 0), 0);
            check.noLimb(desk, 0, part, 1);
            check.noLimb(desk, 0, part, -2);
            check.noLimb(desk, 0, part, Integer.MIN_VALUE);
            check.noLimb(desk, 0, part, Integer.MAX_VALUE);
        }
        desk.set(0, -3, 1L << 8);
        desk.widen(0, 1);
        long[][] limbs = {{0, 3}, {1}, {1, 3}, {4294967295L, 2}};
        int[] signs = {-1, 1, -1, -1};
        for (int part = 0; part < 4; part++) {
            check.due("17: sign of part " + part, desk.limb(0, part, -1), signs[part]);
            for (int n = 0; n < limbs[part].length; n++) {
                check.due("17: part " + part + ", limb " + n, desk.limb(0, part, n), limbs[part][n]);
            }
            check.noLimb(desk, 0, part, limbs[part].length);
        }
        for (int part : new int[] {-1, 4, Integer.MIN_VALUE, Integer.MAX_VALUE}) {
            check.due("17: part " + part, desk.limb(0, part, 0), -2);
            check.due("17: part " + part + ", no limb", desk.limb(0, part, 99), -2);
        }
        for (int k : NO_PLACES) {
            check.due("17: place " + k, desk.limb(k, 0, 0), -2);
            check.due("17: place " + k + ", no limb", desk.limb(k, 0, -9), -2);
        }
    }

    private static void digit() {
        BallDesk desk = small();
        desk.set(0, -9877, 8);
        int[] before = {4, 3, 2, 1, 0};
        int[] behind = {6, 2, 5, 0};
        for (int n = 0; n < before.length; n++) {
            check.due("18: - 1234.625, digit " + -n, desk.digit(0, -n), before[n]);
        }
        for (int n = 0; n < behind.length; n++) {
            check.due("18: - 1234.625, digit " + (n + 1), desk.digit(0, n + 1), behind[n]);
        }
        desk.set(1, MOST, 1);
        String digits = "281474976710656";
        for (int d = 0; d > -15; d--) {
            check.due("18: 2^48, digit " + d, desk.digit(1, d), digits.charAt(14 + d) - '0');
        }
        desk.set(2, 1, ONE);
        String part = "0000152587890625";
        for (int d = 1; d <= 60; d++) {
            check.due("18: 2^-16, digit " + d, desk.digit(2, d), d <= 16 ? part.charAt(d - 1) - '0' : 0);
        }
        for (int d : new int[] {61, -15, Integer.MIN_VALUE, Integer.MAX_VALUE}) {
            check.due("18: digit " + d, desk.digit(0, d), BAD);
        }
        for (int k : NO_PLACES) {
            check.due("18: place " + k, desk.digit(k, 0), BAD);
        }
    }

    private static void sure() {
        BallDesk desk = small();
        check.due("19: of 0", desk.sure(0), 60);
        desk.set(0, -7, 8);
        check.due("19: radius 0", desk.sure(0), 60);
        desk.set(0, 1, 3);
        check.due("19: a third", desk.sure(0), 4);
        desk.set(0, 1, 2);
        desk.widen(0, 1);
        check.due("19: a half, nearly", desk.sure(0), 0);
        desk.set(0, -1, 2);
        desk.widen(0, 1);
        check.due("19: minus a half, nearly", desk.sure(0), 0);
        desk.set(0, 0, 1);
        desk.widen(0, 1);
        check.due("19: both sides of 0", desk.sure(0), -1);
        desk.set(0, 2, 1);
        desk.widen(0, 1);
        check.due("19: both sides of 2", desk.sure(0), -1);
        desk.set(0, 1, ONE);
        desk.widen(0, 1);
        check.due("19: 0 and a little", desk.sure(0), 4);
        for (int k : NO_PLACES) {
            check.due("19: place " + k, desk.sure(k), -2);
        }
    }

    private static void count() {
        BallDesk desk = small();
        check.due("20: middles of 0", desk.count(1), 0);
        check.due("20: radii of 0", desk.count(2), 0);
        desk.set(11, -MOST, 1);
        desk.set(4, 1, 1);
        desk.widen(3, 7);
        desk.widen(5, 8);
        check.due("20: P", desk.count(0), 16);
        check.due("20: longest middle", desk.count(1), 65);
        check.due("20: longest radius", desk.count(2), 4);
        desk.set(11, 0, 1);
        desk.set(5, 0, 1);
        check.due("20: longest middle left", desk.count(1), 17);
        check.due("20: longest radius left", desk.count(2), 3);
        for (int what : new int[] {-1, 3, Integer.MIN_VALUE, Integer.MAX_VALUE}) {
            check.due("20: what " + what, desk.count(what), BAD);
        }
    }

    /** All calls that can be BAD are; not one place may be other than before. */
    private static void badChangesNothing() {
        BallDesk desk = new BallDesk(70);
        for (int k = 0; k < 12; k++) {
            desk.set(k, k % 2 == 0 ? MOST - k : k - MOST, 1);
            desk.widen(k, 100 + k);
        }
        BigInteger[] before = parts(desk);
        int[] answers = {
            desk.set(0, MOST + 1, 1), desk.set(1, 1, 0), desk.add(2, 0, 2), desk.take(3, 0, 1), desk.times(4, 4, 4),
            desk.set(12, 1, 1), desk.root(5, 1), desk.exp(6, 0), desk.exp(6, 1), desk.log(7, 1), desk.sine(8, 0, false),
            desk.sine(8, 1, true), desk.widen(9, -1), desk.join(10, 0, 12), desk.pi(-1), desk.over(0, -1, 0), desk.arc(0, 12)};
        for (int n = 0; n < answers.length; n++) {
            check.due("BAD: call " + n, answers[n], BAD);
        }
        BigInteger[] after = parts(desk);
        for (int n = 0; n < after.length; n++) {
            check.due("BAD: part " + n, after[n], before[n]);
        }
    }

    private static BigInteger[] parts(BallDesk desk) {
        BigInteger[] all = new BigInteger[24];
        for (int n = 0; n < 24; n++) {
            all[n] = Check.part(desk, n / 2, n % 2);
        }
        return all;
    }

    /** A place may be told twice or three times in one call: what stands there is read before it is changed. */
    private static void sameNamesTwice() {
        BallDesk desk = small();
        desk.set(0, 3, 1);
        desk.times(0, 0, 0);
        check.ball("times(0, 0, 0)", desk, 0, 9 * ONE, 1);
        desk.over(0, 0, 0);
        check.ball("over(0, 0, 0)", desk, 0, ONE, 2);
        desk.join(0, 0, 0);
        check.ball("join(0, 0, 0)", desk, 0, ONE, 2);
        desk.set(0, 5, 1);
        desk.set(1, 2, 1);
        desk.take(1, 0, 1);
        check.ball("take(1, 0, 1)", desk, 1, 3 * ONE, 0);
        desk.over(1, 0, 1);
        check.ball("over(1, 0, 1)", desk, 1, 109226, 1);
    }

    private static void wrongPlaces(BallDesk desk, int promise) {
        desk.set(0, 1, 1);
        for (int k : NO_PLACES) {
            for (int n = 0; n < 3; n++) {
                check.due(promise + ": place " + k, call(desk, promise, n == 0 ? k : 0, n == 1 ? k : 0, n == 2 ? k : 0), BAD);
                check.ball(promise + ": place " + k, desk, 0, ONE, 0);
            }
        }
    }

    private static int call(BallDesk desk, int promise, int k, int i, int j) {
        int only = i == 0 ? j : i;
        switch (promise) {
            case 3: return desk.add(k, i, j);
            case 4: return desk.take(k, i, j);
            case 5: return desk.times(k, i, j);
            case 6: return desk.over(k, i, j);
            case 7: return desk.root(k, only);
            case 8: return desk.exp(k, only);
            case 9: return desk.log(k, only);
            case 10: return desk.arc(k, only);
            case 11: return desk.sine(k, only, true);
            default: return desk.join(k, i, j);
        }
    }

    /** 192 bits tell some 57 digits behind the point: at least 54 are sure, and those are right. */
    private static void digits(String name, BallDesk desk, int k, String known) {
        int sure = desk.sure(k);
        check.due(name + ", digits enough", sure >= 54 ? 1 : 0, 1);
        for (int d = 0; d <= sure; d++) {
            check.due(name + ", digit " + d, desk.digit(k, d), known.charAt(d) - '0');
        }
    }
}
