/** Every call of the face that is told places, with what it answers where there is no such place. */
enum Places {
    SET(1, true), ADD(3, true), TAKE(3, true), TIMES(3, true), OVER(3, true), ROOT(2, true), EXP(2, true), LOG(2, true),
    ARC(2, true), SINE(2, true), COSINE(2, true), PI(1, true), WIDEN(1, true), JOIN(3, true),
    LIES(2, false), HOLDS(1, false), DIGIT(1, false), LIMB(1, false, -2), SURE(1, false, -2);

    final int places;
    final boolean makes;
    final int unknown;

    Places(int places, boolean makes) {
        this(places, makes, BallDesk.BAD);
    }

    Places(int places, boolean makes, int unknown) {
        this.places = places;
        this.makes = makes;
        this.unknown = unknown;
    }

    /** Each place holds a ball that every call can be made with. */
    static BallDesk ready(int bits) {
        BallDesk desk = new BallDesk(bits);
        for (int k = 0; k < 12; k++) {
            desk.set(k, 2 * k + 3, 4);
            desk.widen(k, k);
        }
        return desk;
    }

    int on(BallDesk d, int[] k) {
        switch (this) {
            case SET: return d.set(k[0], -7, 3);
            case ADD: return d.add(k[0], k[1], k[2]);
            case TAKE: return d.take(k[0], k[1], k[2]);
            case TIMES: return d.times(k[0], k[1], k[2]);
            case OVER: return d.over(k[0], k[1], k[2]);
            case ROOT: return d.root(k[0], k[1]);
            case EXP: return d.exp(k[0], k[1]);
            case LOG: return d.log(k[0], k[1]);
            case ARC: return d.arc(k[0], k[1]);
            case SINE: return d.sine(k[0], k[1], false);
            case COSINE: return d.sine(k[0], k[1], true);
            case PI: return d.pi(k[0]);
            case WIDEN: return d.widen(k[0], 5);
            case JOIN: return d.join(k[0], k[1], k[2]);
            case LIES: return d.lies(k[0], k[1]);
            case HOLDS: return d.holds(k[0], 3, 4);
            case DIGIT: return d.digit(k[0], 0);
            case LIMB: return (int) d.limb(k[0], 0, 0);
            default: return d.sure(k[0]);
        }
    }

    String text(int[] k) {
        StringBuilder text = new StringBuilder(name().toLowerCase()).append("(").append(k[0]);
        for (int n = 1; n < places; n++) {
            text.append(", ").append(k[n]);
        }
        return text.append(", ..)").toString();
    }
}
