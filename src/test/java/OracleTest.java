import java.util.Random;

/** Runs of 512 calls, the same ones each time, each answer and each ball held against the document's words. */
public final class OracleTest {
    private static final int RUNS = 2500;
    private static final int CALLS = 512;

    private final Check check = new Check();
    private final Random random = new Random(20261115);
    private BallDesk desk;
    private Oracle oracle;
    private String name;
    private int used;

    public static void main(String[] args) {
        OracleTest test = new OracleTest();
        for (int run = 0; run < RUNS; run++) {
            test.run(run);
        }
        test.check.end("OracleTest");
    }

    private void run(int run) {
        int[] usual = {16, 17, 31, 32, 33, 48, 64, 100, 127, 128, 160, 191, 192, 15, 193, -1, Integer.MIN_VALUE, Integer.MAX_VALUE};
        int bits = run < usual.length ? usual[run] : 16 + random.nextInt(177);
        desk = new BallDesk(bits);
        oracle = new Oracle(bits);
        name = "run " + run + " of " + bits + " bits: ";
        used = 0;
        while (used + mostCallsOfAStep() + callsToReadAll() <= CALLS) {
            if (random.nextInt(3) == 0) {
                fill();
            } else {
                act();
            }
            if (random.nextInt(8) == 0) {
                ask();
            }
        }
        for (int k = 0; k < 12; k++) {
            check.ball(name + "at the end", desk, k, oracle.middle[k], oracle.radius[k]);
        }
    }

    private static int mostCallsOfAStep() {
        return 3 + 6;
    }

    /** The middle and the radius of each place: the limbs that one may have, the one that it has not, and the sign. */
    private int callsToReadAll() {
        return 12 * 2 * ((oracle.p + 49 + 31) / 32 + 2);
    }

    private int place() {
        return random.nextInt(40) == 0 ? random.nextInt(2) * 13 - 1 : random.nextInt(12);
    }

    private long number() {
        switch (random.nextInt(6)) {
            case 0: return random.nextInt(41) - 20;
            case 1: return random.nextLong();
            case 2: return random.nextLong() >> random.nextInt(63);
            case 3: return (1L << random.nextInt(64)) + random.nextInt(3) - 1;
            case 4: return random.nextInt(2000001) - 1000000;
            default: return random.nextInt(100);
        }
    }

    private long divisor() {
        return random.nextInt(20) == 0 ? number() : 1 + Math.abs(number() % (1L << random.nextInt(62) + 1));
    }

    private void fill() {
        int k = place();
        if (random.nextInt(4) == 0) {
            long by = number();
            due("widen(" + k + ", " + by + ")", desk.widen(k, by), oracle.widen(k, by));
        } else {
            long a = number();
            long b = divisor();
            due("set(" + k + ", " + a + ", " + b + ")", desk.set(k, a, b), oracle.set(k, a, b));
        }
        look(k);
    }

    private void act() {
        int k = place();
        int i = place();
        int j = place();
        String args = "(" + k + ", " + i + ", " + j + ")";
        boolean cosine = random.nextBoolean();
        switch (random.nextInt(12)) {
            case 0: due("add" + args, desk.add(k, i, j), oracle.add(k, i, j)); break;
            case 1: due("take" + args, desk.take(k, i, j), oracle.take(k, i, j)); break;
            case 2: due("times" + args, desk.times(k, i, j), oracle.times(k, i, j)); break;
            case 3: case 4: due("over" + args, desk.over(k, i, j), oracle.over(k, i, j)); break;
            case 5: due("root" + args, desk.root(k, i), oracle.root(k, i)); break;
            case 6: due("exp" + args, desk.exp(k, i), oracle.exp(k, i)); break;
            case 7: due("log" + args, desk.log(k, i), oracle.log(k, i)); break;
            case 8: due("arc" + args, desk.arc(k, i), oracle.arc(k, i)); break;
            case 9: due("sine" + args + cosine, desk.sine(k, i, cosine), oracle.sine(k, i, cosine)); break;
            case 10: due("join" + args, desk.join(k, i, j), oracle.join(k, i, j)); break;
            default: due("pi" + args, desk.pi(k), oracle.pi(k)); break;
        }
        look(k);
    }

    private void ask() {
        int i = place();
        int j = random.nextInt(3) == 0 ? i : place();
        int d = random.nextInt(80) - 17;
        int what = random.nextInt(5) - 1;
        long a = number();
        long b = divisor();
        due("lies(" + i + ", " + j + ")", desk.lies(i, j), oracle.lies(i, j));
        due("holds(" + i + ", " + a + ", " + b + ")", desk.holds(i, a, b), oracle.holds(i, a, b));
        due("digit(" + i + ", " + d + ")", desk.digit(i, d), oracle.digit(i, d));
        due("sure(" + i + ")", desk.sure(i), oracle.sure(i));
        due("count(" + what + ")", desk.count(what), oracle.count(what));
        limb(i, random.nextInt(6) - 1, random.nextInt(13) - 2);
    }

    /** Two limbs of what came of a call; the whole of it is read at the end of the run. */
    private void look(int k) {
        for (int n = 0; n < 2; n++) {
            limb(k, random.nextInt(4), random.nextInt((oracle.p + 49) / 32 + 3) - 1);
        }
    }

    private void limb(int k, int part, int limb) {
        long want = 0;
        try {
            want = oracle.limb(k, part, limb);
        } catch (IndexOutOfBoundsException e) {
            used++;
            check.noLimb(desk, k, part, limb);
            return;
        }
        due("limb(" + k + ", " + part + ", " + limb + ")", desk.limb(k, part, limb), want);
    }

    private void due(String call, long got, long want) {
        used++;
        check.due(name + call, got, want);
    }
}
