import java.math.BigInteger;
import java.util.function.Supplier;
import java.util.function.ToIntFunction;

/** What every test needs: answers held against what is due, and the numbers of a ball read back. */
final class Check {
    static final int MIDDLE = 0, RADIUS = 1, LOW = 2, HIGH = 3;

    private int checks;
    private int wrong;
    private int sentences;
    private int checksBefore;
    private String about = "";

    /** Names the document's sentence that the checks behind this call stand for. */
    void about(String sentence) {
        leaveSentence();
        about = sentence + " | ";
        sentences++;
        checksBefore = checks;
    }

    private void leaveSentence() {
        if (!about.isEmpty() && checks == checksBefore) {
            tell("has no check");
        }
    }

    void due(String call, long got, long want) {
        checks++;
        if (got != want) {
            tell(call + " answered " + got + ", due is " + want);
        }
    }

    void due(String call, BigInteger got, BigInteger want) {
        checks++;
        if (!got.equals(want)) {
            tell(call + " answered " + got + ", due is " + want);
        }
    }

    void ball(String call, BallDesk desk, int k, BigInteger middle, BigInteger radius) {
        due(call + ", middle of place " + k, part(desk, k, MIDDLE), middle);
        due(call + ", radius of place " + k, part(desk, k, RADIUS), radius);
    }

    void ball(String call, BallDesk desk, int k, long middle, long radius) {
        ball(call, desk, k, BigInteger.valueOf(middle), BigInteger.valueOf(radius));
    }

    /** The call must answer BAD and leave its object as one on which it was not made. */
    void refused(String call, Supplier<BallDesk> maker, ToIntFunction<BallDesk> asked) {
        refused(call, maker, asked, BallDesk.BAD);
    }

    void refused(String call, Supplier<BallDesk> maker, ToIntFunction<BallDesk> asked, int answer) {
        BallDesk tried = maker.get();
        due(call, asked.applyAsInt(tried), answer);
        unchanged(call, tried, maker.get(), -1);
    }

    /** The call must answer 1, make this ball at place k, and leave the other places alone. */
    void taken(String call, Supplier<BallDesk> maker, ToIntFunction<BallDesk> asked, int k, BigInteger middle, BigInteger radius) {
        BallDesk tried = maker.get();
        due(call, asked.applyAsInt(tried), 1);
        ball(call, tried, k, middle, radius);
        unchanged(call, tried, maker.get(), k);
    }

    void taken(String call, Supplier<BallDesk> maker, ToIntFunction<BallDesk> asked, int k, long middle, long radius) {
        taken(call, maker, asked, k, BigInteger.valueOf(middle), BigInteger.valueOf(radius));
    }

    /** All places but one are the same, and so is what a later call makes of them. */
    void unchanged(String call, BallDesk tried, BallDesk untouched, int but) {
        for (int k = 0; k < 12; k++) {
            if (k != but) {
                ball(call + ", behind it", tried, k, part(untouched, k, MIDDLE), part(untouched, k, RADIUS));
            }
        }
        due(call + ", count(0) behind it", tried.count(0), untouched.count(0));
        int k = but == 0 ? 1 : 0;
        tried.set(k, -22, 7);
        untouched.set(k, -22, 7);
        due(call + ", sine behind it", tried.sine(k, k, true), untouched.sine(k, k, true));
        ball(call + ", sine behind it", tried, k, part(untouched, k, MIDDLE), part(untouched, k, RADIUS));
    }

    void noLimb(BallDesk desk, int k, int part, int limb) {
        checks++;
        try {
            long got = desk.limb(k, part, limb);
            tell("limb(" + k + ", " + part + ", " + limb + ") answered " + got + ", due is IndexOutOfBoundsException");
        } catch (IndexOutOfBoundsException e) {
            if (e.getClass() != IndexOutOfBoundsException.class) {
                tell("limb(" + k + ", " + part + ", " + limb + ") threw by itself: " + e);
            }
        }
    }

    private void tell(String text) {
        wrong++;
        if (wrong <= 40) {
            System.out.println("  " + about + text);
        }
    }

    void end(String name) {
        leaveSentence();
        String told = sentences == 0 ? "" : sentences + " sentences, ";
        System.out.println(name + ": " + told + checks + " checks, " + wrong + " wrong");
        if (wrong != 0 || checks == 0) {
            System.exit(1);
        }
    }

    /** A part of a ball, put together from its limbs until there are no more. */
    static BigInteger part(BallDesk desk, int k, int part) {
        BigInteger sum = BigInteger.ZERO;
        for (int i = 0; i < 100; i++) {
            try {
                sum = sum.add(BigInteger.valueOf(desk.limb(k, part, i)).shiftLeft(32 * i));
            } catch (IndexOutOfBoundsException e) {
                break;
            }
        }
        return desk.limb(k, part, -1) < 0 ? sum.negate() : sum;
    }
}
