import java.math.BigInteger;

/** What the tests share: the count of wrong answers, the document's formulas, and laboratories to start from. */
abstract class Checks {
    static final int BAD = -1, STATE = -2, FULL = -3, COPY = -4, FAILED = -5, NONE = -9;
    static final int MIN = Integer.MIN_VALUE, MAX = Integer.MAX_VALUE, Q = 1019, P = 2039, N = 62615533;
    static final int PUBLIC = 1073741823;
    /** The exponents of a base without a factor of N count modulo this. */
    static final BigInteger ORDER = BigInteger.valueOf(7906L * 7918);
    static int wrong = 0, checked = 0;
    static String promise = "";

    static void due(String what, long got, long want) {
        checked++;
        if (got != want) {
            wrong++;
            if (wrong > 40) {
                return;
            }
            System.out.println(promise + ": " + what + " answered " + got + ", due is " + want);
        }
    }

    /** Tells how it went; called at the end of a test. */
    static void finish(String name) {
        System.out.println(wrong == 0 ? name + ": " + checked + " answers are as due" : name + ": " + wrong + " answers are not as due");
        if (wrong != 0) {
            System.exit(1);
        }
    }

    // ---- the document's formulas

    static int mix(int h, int v) {
        int y = (h ^ v) * -1640531535;
        return y ^ (y >>> 15);
    }

    /** The output after an output h, if these are the contributions. */
    static int mixed(int h, int... contributions) {
        for (int c : contributions) {
            h = mix(h, c);
        }
        return h;
    }

    /** The coin of a first round. */
    static int coin(int... contributions) {
        return mixed(0, contributions) & 1;
    }

    static int digest(int round, int secret, int nonce) {
        return mixed(17, round, secret, nonce);
    }

    static int inverse(int odd) {
        return BigInteger.valueOf(odd).modInverse(BigInteger.ONE.shiftLeft(32)).intValue();
    }

    /** The nonce that gives this digest with this secret. */
    static int nonceFor(int round, int secret, int digest) {
        int y = digest ^ (digest >>> 15) ^ (digest >>> 30);
        return (y * inverse(-1640531535)) ^ mixed(17, round, secret);
    }

    /** A seed whose first draw is this number from 0 to 65535. */
    static int seedDrawing(int draw) {
        return ((draw << 16 | 4321) - 12345) * inverse(1103515245);
    }

    static int[] draws(int seed, int number) {
        int[] d = new int[number];
        int state = seed;
        for (int i = 0; i < number; i++) {
            state = 1103515245 * state + 12345;
            d[i] = state >>> 16;
        }
        return d;
    }

    /** The secrets that play() draws for so many members. */
    static int[] secretsOf(int seed, int members) {
        int[] d = draws(seed, 2 * members), secrets = new int[members];
        for (int i = 0; i < members; i++) {
            secrets[i] = d[2 * i] % Q;
        }
        return secrets;
    }

    static int[] polynomial(int secret, int nonce, int threshold) {
        int[] a = draws(nonce, threshold), all = new int[threshold];
        all[0] = secret;
        for (int k = 1; k < threshold; k++) {
            all[k] = a[k - 1] % Q;
        }
        return all;
    }

    /** The value of a polynomial at x, modulo Q. */
    static int at(int[] a, int x) {
        long sum = 0, power = 1;
        for (int c : a) {
            sum += c * power;
            power *= x;
        }
        return (int) (sum % Q);
    }

    static int power(long b, long e, long m) {
        return BigInteger.valueOf(b).modPow(BigInteger.valueOf(e), BigInteger.valueOf(m)).intValue();
    }

    static BigInteger powerOfTwo(int d, BigInteger modulus) {
        return BigInteger.TWO.modPow(BigInteger.valueOf(d), modulus);
    }

    static int slowly(int b, int d) {
        return BigInteger.valueOf(b).modPow(BigInteger.ONE.shiftLeft(d), BigInteger.valueOf(N)).intValue();
    }

    /** slow(b, d) for any delay; b has no factor of N. */
    static int quickly(int b, int d) {
        return BigInteger.valueOf(b).modPow(powerOfTwo(d, ORDER), BigInteger.valueOf(N)).intValue();
    }

    static int baseOf(int nonce) {
        return 2 + draws(nonce, 1)[0] % 1000;
    }

    static int leastForPrime(int b, int y) {
        return 257 + (mix(mix(19, b), y) >>> 22);
    }

    static int primeFor(int b, int y) {
        int l = leastForPrime(b, y);
        while (!BigInteger.valueOf(l).isProbablePrime(50)) {
            l++;
        }
        return l;
    }

    static int proofFor(int b, int d) {
        BigInteger l = BigInteger.valueOf(primeFor(b, slowly(b, d)));
        return BigInteger.valueOf(b).modPow(BigInteger.ONE.shiftLeft(d).divide(l), BigInteger.valueOf(N)).intValue();
    }

    /** The proof of quickly(b, d), by one who knows the factors. */
    static int quickProof(int b, int d) {
        BigInteger l = BigInteger.valueOf(primeFor(b, quickly(b, d)));
        // floor(2^d / l) modulo the order, from 2^d modulo l times the order
        BigInteger exponent = powerOfTwo(d, l.multiply(ORDER)).subtract(powerOfTwo(d, l)).divide(l);
        return BigInteger.valueOf(b).modPow(exponent, BigInteger.valueOf(N)).intValue();
    }

    // ---- laboratories to start from

    static OwnerlessCoin lab(int method, int... balances) {
        OwnerlessCoin x = new OwnerlessCoin();
        x.setMethod(method);
        for (int balance : balances) {
            x.addParticipant(balance);
        }
        return x;
    }

    static OwnerlessCoin crowd(int method, int people) {
        OwnerlessCoin x = lab(method);
        for (int p = 0; p < people; p++) {
            x.addParticipant(100);
        }
        return x;
    }

    /** A first round in which all have committed: member p to secret 10 * p + 1 and nonce p. */
    static OwnerlessCoin committing(int method, int people) {
        return committing(method, people, 2);
    }

    static OwnerlessCoin committing(int method, int people, int threshold) {
        OwnerlessCoin x = crowd(method, people);
        x.setThreshold(threshold);
        x.begin();
        for (int p = 0; p < people; p++) {
            commits(x, p);
        }
        return x;
    }

    static OwnerlessCoin opening(int method, int people) {
        OwnerlessCoin x = committing(method, people);
        x.beginOpening();
        return x;
    }

    static int secretOf(int p) {
        return 10 * p + 1;
    }

    static int commits(OwnerlessCoin x, int p) {
        return x.commit(p, secretOf(p), p);
    }

    static int opens(OwnerlessCoin x, int p) {
        return x.open(p, secretOf(p), p);
    }
}
