import java.math.BigInteger;

/** What every test needs: answers held against what is due, and the numbers of a ball read back. */
final class Check {
    static final int MIDDLE = 0, RADIUS = 1, LOW = 2, HIGH = 3;

    private int checks;
    private int wrong;

    void due(String call, long got, long want) {
        checks++;
        if (got != want) {
            tell(call + " answered " + got + ", due is " + want);
        }
    }

    void due(String call, BigInteger got, BigInteger want) {
        checks++;
        if (!got.equals(want)) {
            tell(call + " answered " + got + ", due is " + want);
        }
    }

    void ball(String call, BallDesk desk, int k, BigInteger middle, BigInteger radius) {
        due(call + ", middle of place " + k, part(desk, k, MIDDLE), middle);
        due(call + ", radius of place " + k, part(desk, k, RADIUS), radius);
    }

    void ball(String call, BallDesk desk, int k, long middle, long radius) {
        ball(call, desk, k, BigInteger.valueOf(middle), BigInteger.valueOf(radius));
    }

    void noLimb(BallDesk desk, int k, int part, int limb) {
        checks++;
        try {
            long got = desk.limb(k, part, limb);
            tell("limb(" + k + ", " + part + ", " + limb + ") answered " + got + ", due is IndexOutOfBoundsException");
        } catch (IndexOutOfBoundsException e) {
            if (e.getClass() != IndexOutOfBoundsException.class) {
                tell("limb(" + k + ", " + part + ", " + limb + ") threw by itself: " + e);
            }
        }
    }

    private void tell(String text) {
        wrong++;
        if (wrong <= 40) {
            System.out.println("  " + text);
        }
    }

    void end(String name) {
        System.out.println(name + ": " + checks + " checks, " + wrong + " wrong");
        if (wrong != 0 || checks == 0) {
            System.exit(1);
        }
    }

    /** A part of a ball, put together from its limbs until there are no more. */
    static BigInteger part(BallDesk desk, int k, int part) {
        BigInteger sum = BigInteger.ZERO;
        for (int i = 0; i < 100; i++) {
            try {
                sum = sum.add(BigInteger.valueOf(desk.limb(k, part, i)).shiftLeft(32 * i));
            } catch (IndexOutOfBoundsException e) {
                break;
            }
        }
        return desk.limb(k, part, -1) < 0 ? sum.negate() : sum;
    }
}
