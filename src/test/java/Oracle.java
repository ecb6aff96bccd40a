import java.math.BigInteger;

/** The document once more, word by word, over BigInteger: what the class is held against. */
final class Oracle {
    private static final BigInteger ZERO = BigInteger.ZERO, ONE = BigInteger.ONE, TWO = BigInteger.TWO;

    final int p;
    final int q;
    final BigInteger[] middle = new BigInteger[12];
    final BigInteger[] radius = new BigInteger[12];

    Oracle(int bits) {
        p = bits < 16 ? 16 : bits > 192 ? 192 : bits;
        q = p + 64;
        for (int k = 0; k < 12; k++) {
            middle[k] = ZERO;
            radius[k] = ZERO;
        }
    }

    static BigInteger big(long a) {
        return BigInteger.valueOf(a);
    }

    static BigInteger pow2(int n) {
        return ONE.shiftLeft(n);
    }

    /** a : b, rounded down. */
    static BigInteger by(BigInteger a, BigInteger b) {
        BigInteger[] both = a.divideAndRemainder(b);
        return both[1].signum() < 0 ? both[0].subtract(ONE) : both[0];
    }

    static BigInteger by(BigInteger a, long b) {
        return by(a, big(b));
    }

    /** The least number that times b is not below a. */
    static BigInteger notBelow(BigInteger a, BigInteger b) {
        BigInteger[] both = a.divideAndRemainder(b);
        return both[1].signum() > 0 ? both[0].add(ONE) : both[0];
    }

    BigInteger unit() {
        return pow2(q);
    }

    static boolean ends(BigInteger part) {
        return part.equals(ZERO) || part.equals(ONE.negate());
    }

    BigInteger fineExp(BigInteger t) {
        int n = 0;
        while (t.abs().compareTo(pow2(q - 8 + n)) >= 0) {
            n++;
        }
        BigInteger y = by(t, pow2(n));
        BigInteger sum = ZERO;
        BigInteger part = unit();
        for (int k = 1; !ends(part); k++) {
            sum = sum.add(part);
            part = by(by(part.multiply(y), unit()), k);
        }
        for (int i = 0; i < n; i++) {
            sum = by(sum.multiply(sum), unit());
        }
        return sum;
    }

    BigInteger row(BigInteger w, boolean arc) {
        BigInteger square = by(w.multiply(w), unit());
        BigInteger sum = ZERO;
        BigInteger part = w;
        for (int j = 0; !ends(part); j++) {
            BigInteger share = by(part, 2L * j + 1);
            sum = arc && j % 2 == 1 ? sum.subtract(share) : sum.add(share);
            part = by(part.multiply(square), unit());
        }
        return sum;
    }

    BigInteger fineLog(BigInteger t) {
        BigInteger three = t.multiply(big(3));
        int k = -q;
        while (three.compareTo(pow2(q + k + 2)) >= 0) {
            k++;
        }
        BigInteger a = k >= 0 ? t : t.shiftLeft(-k);
        BigInteger b = k >= 0 ? pow2(q + k) : unit();
        BigInteger w = by(a.subtract(b).multiply(unit()), a.add(b));
        BigInteger two = TWO.multiply(row(by(unit(), 3), false));
        return TWO.multiply(row(w, false)).add(two.multiply(big(k)));
    }

    BigInteger finePi() {
        BigInteger five = row(by(unit(), 5), true);
        BigInteger other = row(by(unit(), 239), true);
        return five.multiply(big(16)).subtract(other.multiply(big(4)));
    }

    BigInteger fineAtan(BigInteger t) {
        if (t.signum() < 0) {
            return fineAtan(t.negate()).negate();
        }
        if (t.compareTo(unit()) > 0) {
            return by(finePi(), 2).subtract(fineAtan(by(pow2(2 * q), t)));
        }
        for (int n = 0; n < 3; n++) {
            BigInteger below = unit().add(pow2(2 * q).add(t.multiply(t)).sqrt());
            t = by(t.multiply(unit()), below);
        }
        return row(t, true).multiply(big(8));
    }

    BigInteger fineSin(BigInteger t) {
        BigInteger pi = finePi();
        BigInteger n = by(t.multiply(TWO).add(pi), pi.multiply(TWO));
        BigInteger y = t.subtract(n.multiply(pi));
        BigInteger square = by(y.multiply(y), unit());
        BigInteger sum = ZERO;
        BigInteger part = y;
        for (int j = 1; part.signum() != 0; j++) {
            sum = sum.add(part);
            part = by(by(part.multiply(square), unit()), 2L * j * (2L * j + 1)).negate();
        }
        return n.testBit(0) ? sum.negate() : sum;
    }

    static boolean place(int k) {
        return k >= 0 && k <= 11;
    }

    BigInteger low(int k) {
        return middle[k].subtract(radius[k]);
    }

    BigInteger high(int k) {
        return middle[k].add(radius[k]);
    }

    int keep(int k, BigInteger m, BigInteger r) {
        BigInteger most = pow2(p + 48);
        if (m.abs().compareTo(most) > 0 || r.compareTo(most) > 0 || r.signum() < 0) {
            return -1;
        }
        middle[k] = m;
        radius[k] = r;
        return 1;
    }

    int keepEnds(int k, BigInteger l, BigInteger h) {
        BigInteger m = by(l.add(h), 2);
        return keep(k, m, h.subtract(m));
    }

    int set(int k, long a, long b) {
        if (!place(k) || b <= 0) {
            return -1;
        }
        BigInteger whole = big(a).multiply(pow2(p));
        BigInteger m = by(whole, b);
        return keep(k, m, m.multiply(big(b)).equals(whole) ? ZERO : ONE);
    }

    int add(int k, int i, int j) {
        if (!place(k) || !place(i) || !place(j)) {
            return -1;
        }
        return keep(k, middle[i].add(middle[j]), radius[i].add(radius[j]));
    }

    int take(int k, int i, int j) {
        if (!place(k) || !place(i) || !place(j)) {
            return -1;
        }
        return keep(k, middle[i].subtract(middle[j]), radius[i].add(radius[j]));
    }

    int times(int k, int i, int j) {
        if (!place(k) || !place(i) || !place(j)) {
            return -1;
        }
        BigInteger err = middle[i].abs().multiply(radius[j]).add(middle[j].abs().multiply(radius[i]))
            .add(radius[i].multiply(radius[j]));
        return keep(k, by(middle[i].multiply(middle[j]), pow2(p)), notBelow(err, pow2(p)).add(ONE));
    }

    int over(int k, int i, int j) {
        if (!place(k) || !place(i) || !place(j)) {
            return -1;
        }
        BigInteger m = middle[j].abs();
        BigInteger r = radius[j];
        if (m.compareTo(r) <= 0) {
            return -1;
        }
        BigInteger top = middle[j].signum() < 0 ? middle[i].negate() : middle[i];
        BigInteger err = pow2(p).multiply(middle[i].abs().multiply(r).add(m.multiply(radius[i])));
        return keep(k, by(top.multiply(pow2(p)), m), notBelow(err, m.multiply(m.subtract(r))).add(ONE));
    }

    int root(int k, int i) {
        if (!place(k) || !place(i) || low(i).signum() < 0) {
            return -1;
        }
        return keepEnds(k, low(i).multiply(pow2(p)).sqrt(), high(i).multiply(pow2(p)).sqrt().add(ONE));
    }

    BigInteger fine(BigInteger a) {
        return a.multiply(pow2(64));
    }

    BigInteger coarse(BigInteger a) {
        return by(a, pow2(64));
    }

    int exp(int k, int i) {
        if (!place(k) || !place(i)) {
            return -1;
        }
        BigInteger most = big(16).multiply(pow2(p));
        if (low(i).compareTo(most.negate()) < 0 || high(i).compareTo(most) > 0) {
            return -1;
        }
        BigInteger l = coarse(fineExp(fine(low(i)))).subtract(ONE);
        return keepEnds(k, l.max(ZERO), coarse(fineExp(fine(high(i)))).add(TWO));
    }

    int log(int k, int i) {
        if (!place(k) || !place(i) || low(i).compareTo(ONE) < 0) {
            return -1;
        }
        return keepEnds(k, coarse(fineLog(fine(low(i)))).subtract(ONE), coarse(fineLog(fine(high(i)))).add(TWO));
    }

    int arc(int k, int i) {
        if (!place(k) || !place(i)) {
            return -1;
        }
        return keepEnds(k, coarse(fineAtan(fine(low(i)))).subtract(ONE), coarse(fineAtan(fine(high(i)))).add(TWO));
    }

    int sine(int k, int i, boolean cosine) {
        if (!place(k) || !place(i) || middle[i].abs().compareTo(pow2(p + 20)) > 0) {
            return -1;
        }
        BigInteger t = fine(middle[i]);
        if (cosine) {
            t = t.add(by(finePi(), 2));
        }
        return keep(k, coarse(fineSin(t)), radius[i].add(TWO));
    }

    int pi(int k) {
        return place(k) ? keep(k, coarse(finePi()), TWO) : -1;
    }

    int widen(int k, long by) {
        return place(k) && by >= 0 ? keep(k, middle[k], radius[k].add(big(by))) : -1;
    }

    int join(int k, int i, int j) {
        if (!place(k) || !place(i) || !place(j)) {
            return -1;
        }
        return keepEnds(k, low(i).min(low(j)), high(i).max(high(j)));
    }

    int lies(int i, int j) {
        if (!place(i) || !place(j)) {
            return -1;
        }
        if (high(i).compareTo(low(j)) < 0) {
            return -2;
        }
        if (high(j).compareTo(low(i)) < 0) {
            return 2;
        }
        if (low(i).equals(low(j)) && high(i).equals(high(j))) {
            return 3;
        }
        if (low(i).compareTo(low(j)) >= 0 && high(i).compareTo(high(j)) <= 0) {
            return 4;
        }
        if (low(j).compareTo(low(i)) >= 0 && high(j).compareTo(high(i)) <= 0) {
            return 5;
        }
        return 6;
    }

    int holds(int k, long a, long b) {
        if (!place(k) || b <= 0) {
            return -1;
        }
        BigInteger x = big(a).multiply(pow2(p));
        return low(k).multiply(big(b)).compareTo(x) <= 0 && high(k).multiply(big(b)).compareTo(x) >= 0 ? 1 : 0;
    }

    long limb(int k, int part, int limb) throws IndexOutOfBoundsException {
        if (!place(k) || part < 0 || part > 3) {
            return -2;
        }
        BigInteger x = part == 0 ? middle[k] : part == 1 ? radius[k] : part == 2 ? low(k) : high(k);
        if (limb == -1) {
            return x.signum();
        }
        int limbs = Math.max(1, (x.abs().bitLength() + 31) / 32);
        if (limb < 0 || limb >= limbs) {
            throw new IndexOutOfBoundsException();
        }
        return x.abs().shiftRight(32 * limb).longValue() & 0xFFFFFFFFL;
    }

    int digit(int k, int d) {
        if (!place(k) || d > 60 || d < -14) {
            return -1;
        }
        BigInteger m = middle[k].abs();
        BigInteger cut = d > 0 ? by(m.multiply(BigInteger.TEN.pow(d)), pow2(p))
            : by(by(m, pow2(p)), BigInteger.TEN.pow(-d));
        return cut.mod(BigInteger.TEN).intValue();
    }

    int sure(int k) {
        if (!place(k)) {
            return -2;
        }
        for (int d = 60; d >= 0; d--) {
            BigInteger ten = BigInteger.TEN.pow(d);
            if (by(low(k).multiply(ten), pow2(p)).equals(by(high(k).multiply(ten), pow2(p)))) {
                return d;
            }
        }
        return -1;
    }

    int count(int what) {
        if (what < 0 || what > 2) {
            return -1;
        }
        if (what == 0) {
            return p;
        }
        int most = 0;
        for (int k = 0; k < 12; k++) {
            most = Math.max(most, (what == 1 ? middle[k].abs() : radius[k]).bitLength());
        }
        return most;
    }
}
