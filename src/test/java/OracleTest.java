import java.util.Random;

/** Runs of 512 calls, the same ones each time, each answer and each place held against the document's words. */
public final class OracleTest {
    private static final int RUNS = 400;
    private static final int CALLS = 512;

    private final Check check = new Check();
    private final Random random = new Random(20261115);
    private BallDesk desk;
    private Oracle oracle;
    private String name;

    public static void main(String[] args) {
        OracleTest test = new OracleTest();
        for (int run = 0; run < RUNS; run++) {
            test.run(run);
        }
        test.check.end("OracleTest");
    }

    private void run(int run) {
        int[] usual = {16, 17, 31, 32, 33, 48, 64, 100, 127, 128, 160, 191, 192, 15, 193, -1, Integer.MIN_VALUE, Integer.MAX_VALUE};
        int bits = run < usual.length ? usual[run] : 16 + random.nextInt(177);
        desk = new BallDesk(bits);
        oracle = new Oracle(bits);
        name = "run " + run + " of " + bits + " bits: ";
        for (int call = 0; call < CALLS; call++) {
            if (random.nextInt(3) == 0) {
                fill();
            } else {
                act();
            }
            if (random.nextInt(4) == 0) {
                ask();
            }
        }
        for (int k = 0; k < 12; k++) {
            same("at the end", k);
        }
    }

    private int place() {
        return random.nextInt(40) == 0 ? random.nextInt(2) * 13 - 1 : random.nextInt(12);
    }

    private long number() {
        switch (random.nextInt(6)) {
            case 0: return random.nextInt(41) - 20;
            case 1: return random.nextLong();
            case 2: return random.nextLong() >> random.nextInt(63);
            case 3: return (1L << random.nextInt(64)) + random.nextInt(3) - 1;
            case 4: return random.nextInt(2000001) - 1000000;
            default: return random.nextInt(100);
        }
    }

    private long divisor() {
        return random.nextInt(20) == 0 ? number() : 1 + Math.abs(number() % (1L << random.nextInt(62) + 1));
    }

    private void fill() {
        int k = place();
        if (random.nextInt(4) == 0) {
            long by = number();
            due("widen(" + k + ", " + by + ")", desk.widen(k, by), oracle.widen(k, by));
        } else {
            long a = number();
            long b = divisor();
            due("set(" + k + ", " + a + ", " + b + ")", desk.set(k, a, b), oracle.set(k, a, b));
        }
        same("after filling", k);
    }

    private void act() {
        int k = place();
        int i = place();
        int j = place();
        String args = "(" + k + ", " + i + ", " + j + ")";
        boolean cosine = random.nextBoolean();
        switch (random.nextInt(12)) {
            case 0: due("add" + args, desk.add(k, i, j), oracle.add(k, i, j)); break;
            case 1: due("take" + args, desk.take(k, i, j), oracle.take(k, i, j)); break;
            case 2: due("times" + args, desk.times(k, i, j), oracle.times(k, i, j)); break;
            case 3: case 4: due("over" + args, desk.over(k, i, j), oracle.over(k, i, j)); break;
            case 5: due("root" + args, desk.root(k, i), oracle.root(k, i)); break;
            case 6: due("exp" + args, desk.exp(k, i), oracle.exp(k, i)); break;
            case 7: due("log" + args, desk.log(k, i), oracle.log(k, i)); break;
            case 8: due("arc" + args, desk.arc(k, i), oracle.arc(k, i)); break;
            case 9: due("sine" + args + cosine, desk.sine(k, i, cosine), oracle.sine(k, i, cosine)); break;
            case 10: due("join" + args, desk.join(k, i, j), oracle.join(k, i, j)); break;
            default: due("pi" + args, desk.pi(k), oracle.pi(k)); break;
        }
        same("after acting " + args, k);
    }

    private void ask() {
        int i = place();
        int j = random.nextInt(3) == 0 ? i : place();
        int d = random.nextInt(80) - 17;
        int what = random.nextInt(5) - 1;
        long a = number();
        long b = divisor();
        due("lies(" + i + ", " + j + ")", desk.lies(i, j), oracle.lies(i, j));
        due("holds(" + i + ", " + a + ", " + b + ")", desk.holds(i, a, b), oracle.holds(i, a, b));
        due("digit(" + i + ", " + d + ")", desk.digit(i, d), oracle.digit(i, d));
        due("sure(" + i + ")", desk.sure(i), oracle.sure(i));
        due("count(" + what + ")", desk.count(what), oracle.count(what));
        limb(i, random.nextInt(6) - 1, random.nextInt(13) - 2);
    }

    private void limb(int k, int part, int limb) {
        String call = "limb(" + k + ", " + part + ", " + limb + ")";
        long want = 0;
        try {
            want = oracle.limb(k, part, limb);
        } catch (IndexOutOfBoundsException e) {
            check.noLimb(desk, k, part, limb);
            return;
        }
        due(call, desk.limb(k, part, limb), want);
    }

    private void due(String call, long got, long want) {
        check.due(name + call, got, want);
    }

    private void same(String when, int k) {
        if (!Oracle.place(k)) {
            return;
        }
        check.ball(name + when, desk, k, oracle.middle[k], oracle.radius[k]);
        check.due(name + when + ", LOW", Check.part(desk, k, Check.LOW), oracle.low(k));
        check.due(name + when + ", HIGH", Check.part(desk, k, Check.HIGH), oracle.high(k));
    }
}
