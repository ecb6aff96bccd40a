import java.math.BigInteger;
import java.util.Random;

/**
 * "Worked out so that what is true always lies within": the same calls on a coarse and on a fine object. What is
 * true of both is one and the same number, so that their balls must meet, however they were worked out.
 */
public final class TruthTest {
    private static final int RUNS = 2000;
    private static final int STEPS = 20;
    private static final int FINE_BITS = 192;
    private static final int PLACES = 6;

    private final Check check = new Check();
    private final Random random = new Random(20261116);
    private BallDesk coarse;
    private BallDesk fine;
    private int bits;

    public static void main(String[] args) {
        TruthTest test = new TruthTest();
        for (int run = 0; run < RUNS; run++) {
            test.run();
        }
        test.check.end("TruthTest");
    }

    private void run() {
        bits = 16 + random.nextInt(FINE_BITS - 16);
        coarse = new BallDesk(bits);
        fine = new BallDesk(FINE_BITS);
        for (int k = 0; k < PLACES; k++) {
            set(k);
        }
        for (int n = 0; n < STEPS; n++) {
            int call = random.nextInt(12);
            int k = random.nextInt(PLACES);
            int i = random.nextInt(PLACES);
            int j = random.nextInt(PLACES);
            int inCoarse = call(coarse, call, k, i, j);
            int inFine = call(fine, call, k, i, j);
            // What only one of them refuses would leave them with different numbers.
            if (inCoarse != 1 || inFine != 1) {
                set(k);
            }
            meet(call, k);
        }
    }

    private void set(int k) {
        int size = 1 << random.nextInt(20);
        long a = random.nextInt(2 * size + 1) - size;
        long b = 1 + random.nextInt(1 << random.nextInt(20));
        coarse.set(k, a, b);
        fine.set(k, a, b);
    }

    private static int call(BallDesk desk, int call, int k, int i, int j) {
        switch (call) {
            case 0: return desk.add(k, i, j);
            case 1: return desk.take(k, i, j);
            case 2: return desk.times(k, i, j);
            case 3: return desk.over(k, i, j);
            case 4: return desk.root(k, i);
            case 5: return desk.exp(k, i);
            case 6: return desk.log(k, i);
            case 7: return desk.arc(k, i);
            case 8: return desk.sine(k, i, false);
            case 9: return desk.sine(k, i, true);
            case 10: return desk.pi(k);
            default: return desk.widen(k, 1);
        }
    }

    private void meet(int call, int k) {
        int finer = FINE_BITS - bits;
        BigInteger low = Check.part(coarse, k, Check.LOW).shiftLeft(finer);
        BigInteger high = Check.part(coarse, k, Check.HIGH).shiftLeft(finer);
        boolean below = high.compareTo(Check.part(fine, k, Check.LOW)) < 0;
        boolean above = low.compareTo(Check.part(fine, k, Check.HIGH)) > 0;
        check.due("call " + call + " with " + bits + " bits lies beside what is true", below || above ? 1 : 0, 0);
    }
}
