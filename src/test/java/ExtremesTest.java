/** Every call on the longest, the widest and the least balls, where a row of limbs would be too short. */
public final class ExtremesTest {
    private static final long MOST = 1L << 48;
    private static final int STEPS = 6;

    private static final Check check = new Check();

    private final BallDesk desk;
    private final Oracle oracle;
    private final String name;

    private ExtremesTest(int bits) {
        desk = new BallDesk(bits);
        oracle = new Oracle(bits);
        name = bits + " bits: ";
    }

    public static void main(String[] args) {
        for (int bits : new int[] {16, 17, 47, 48, 63, 64, 65, 96, 127, 128, 129, 159, 160, 176, 190, 191, 192}) {
            for (int i = 0; i < 10; i++) {
                for (int j = 0; j < 10; j++) {
                    for (int step = 0; step < STEPS; step++) {
                        // Each step has an object of its own: reading all balls takes most of its 512 calls.
                        new ExtremesTest(bits).pair(i, j, step);
                    }
                }
            }
        }
        check.end("ExtremesTest");
    }

    /** Places 0 .. 9; 10 and 11 are for what comes of them. */
    private void prepare() {
        set(0, MOST, 1);
        set(1, -MOST, 1);
        set(10, Long.MAX_VALUE, 1L << 15);
        due("join", desk.join(2, 0, 1), oracle.join(2, 0, 1));
        due("add", desk.add(3, 2, 0), oracle.add(3, 2, 0));
        due("add", desk.add(4, 2, 1), oracle.add(4, 2, 1));
        due("join", desk.join(11, 1, 10), oracle.join(11, 1, 10));
        due("take", desk.take(5, 0, 11), oracle.take(5, 0, 11));
        due("take", desk.take(6, 1, 11), oracle.take(6, 1, 11));
        set(7, 1, Long.MAX_VALUE);
        set(8, -1, Long.MAX_VALUE);
        set(9, -Long.MAX_VALUE, 1L << 15);
    }

    private void pair(int i, int j, int step) {
        prepare();
        switch (step) {
            case 0:
                due("add " + i + " " + j, desk.add(10, i, j), oracle.add(10, i, j));
                due("take " + i + " " + j, desk.take(11, i, j), oracle.take(11, i, j));
                break;
            case 1:
                due("times " + i + " " + j, desk.times(10, i, j), oracle.times(10, i, j));
                due("over " + i + " " + j, desk.over(11, i, j), oracle.over(11, i, j));
                break;
            case 2:
                due("join " + i + " " + j, desk.join(10, i, j), oracle.join(10, i, j));
                due("root " + i, desk.root(11, i), oracle.root(11, i));
                break;
            case 3:
                due("log " + i, desk.log(10, i), oracle.log(10, i));
                due("arc " + i, desk.arc(11, i), oracle.arc(11, i));
                break;
            case 4:
                due("exp " + i, desk.exp(10, i), oracle.exp(10, i));
                due("sine " + i, desk.sine(11, i, j % 2 == 0), oracle.sine(11, i, j % 2 == 0));
                break;
            default:
                ask(i, j);
                break;
        }
        same();
    }

    private void ask(int i, int j) {
        due("lies " + i + " " + j, desk.lies(i, j), oracle.lies(i, j));
        due("sure " + i, desk.sure(i), oracle.sure(i));
        due("digit " + i, desk.digit(i, 60 - j), oracle.digit(i, 60 - j));
        due("digit " + i, desk.digit(i, j - 14), oracle.digit(i, j - 14));
        due("holds " + i, desk.holds(i, Long.MIN_VALUE, Long.MAX_VALUE), oracle.holds(i, Long.MIN_VALUE, Long.MAX_VALUE));
        due("holds " + i, desk.holds(i, Long.MAX_VALUE, 1L << 14), oracle.holds(i, Long.MAX_VALUE, 1L << 14));
        due("count", desk.count(1), oracle.count(1));
        due("count", desk.count(2), oracle.count(2));
    }

    private void set(int k, long a, long b) {
        due("set", desk.set(k, a, b), oracle.set(k, a, b));
    }

    private void due(String call, long got, long want) {
        check.due(name + call, got, want);
    }

    private void same() {
        for (int k = 0; k < 12; k++) {
            check.ball(name + "the calls before", desk, k, oracle.middle[k], oracle.radius[k]);
            check.due(name + "LOW of " + k, Check.part(desk, k, Check.LOW), oracle.low(k));
            check.due(name + "HIGH of " + k, Check.part(desk, k, Check.HIGH), oracle.high(k));
        }
    }
}
