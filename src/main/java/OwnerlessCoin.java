/**
 * A laboratory for coins that nobody owns: participants commit to secret numbers, open them
 * afterwards, and all secrets of a round are mixed into one random number.
 */
public final class OwnerlessCoin {
    public static final int BAD = -1;
    public static final int STATE = -2;
    public static final int FULL = -3;
    public static final int COPY = -4;
    public static final int FAILED = -5;
    public static final int NONE = -9;

    private static final int Q = 1019;
    private static final int P = 2039;
    private static final int G = 4;
    private static final int FACTOR_A = 7907;
    private static final int FACTOR_B = 7919;
    private static final int N = FACTOR_A * FACTOR_B;

    private static final int MOST_PARTICIPANTS = 8;
    private static final int ALL_SETS = 1 << MOST_PARTICIPANTS;
    private static final int MOST_BALANCE = 1000000;
    private static final int MOST_THRESHOLD = 8;
    private static final int MOST_FINE = 1000;
    private static final int MOST_DELAY = 5000;
    private static final int MOST_BASE = 100000;
    private static final int MOST_QUICK_DELAY = 1000000000;
    private static final int MOST_BITS = 4;
    private static final int MOST_BITS_IN_ALL = 12;

    private static final int ZERO = 0;
    private static final int SHARES = 1;
    private static final int DELAY = 2;

    private static final int HONEST = 0;
    private static final int SELFISH = 2;
    private static final int CHEATING = 3;

    private static final int RESTING = 0;
    private static final int COMMITTING = 1;
    private static final int OPENING = 2;

    private static final int PUBLIC_BITS = 1073741823;

    private final Lab lab;
    private final History history;
    private final Coalition coalitions;

    public OwnerlessCoin() {
        lab = new Lab();
        history = new History();
        coalitions = new Coalition();
    }

    // ---- participants, settings

    public int addParticipant(int balance) {
        if (!isWithin(balance, 0, MOST_BALANCE)) {
            return BAD;
        }
        if (lab.phase != RESTING) {
            return STATE;
        }
        if (lab.count >= MOST_PARTICIPANTS) {
            return FULL;
        }
        history.remember(lab);
        return lab.admit(balance);
    }

    public int behave(int p, int behavior) {
        if (!lab.isParticipant(p) || !isWithin(behavior, HONEST, CHEATING)) {
            return BAD;
        }
        history.remember(lab);
        int previous = lab.people[p].behavior;
        lab.people[p].behavior = behavior;
        return previous;
    }

    public int setMethod(int method) {
        int error = settingError(method, ZERO, DELAY);
        if (error < 0) {
            return error;
        }
        history.remember(lab);
        int previous = lab.method;
        lab.method = method;
        return previous;
    }

    public int setThreshold(int threshold) {
        int error = settingError(threshold, 1, MOST_THRESHOLD);
        if (error < 0) {
            return error;
        }
        history.remember(lab);
        int previous = lab.threshold;
        lab.threshold = threshold;
        return previous;
    }

    public int setFine(int fine) {
        int error = settingError(fine, 0, MOST_FINE);
        if (error < 0) {
            return error;
        }
        history.remember(lab);
        int previous = lab.fine;
        lab.fine = fine;
        return previous;
    }

    public int setDelay(int delay) {
        int error = settingError(delay, 1, MOST_DELAY);
        if (error < 0) {
            return error;
        }
        history.remember(lab);
        int previous = lab.delay;
        lab.delay = delay;
        return previous;
    }

    /** The error that setting a value returns, or 0. */
    private int settingError(int value, int least, int greatest) {
        if (!isWithin(value, least, greatest)) {
            return BAD;
        }
        return lab.phase == RESTING ? 0 : STATE;
    }

    // ---- a round

    public int begin() {
        if (!lab.canStart()) {
            return STATE;
        }
        history.remember(lab);
        lab.start();
        return lab.chronicle.ended;
    }

    public int commit(int p, int secret, int nonce) {
        if (!lab.isParticipant(p) || !isWithin(secret, 0, Q - 1)) {
            return BAD;
        }
        if (lab.phase != COMMITTING || !has(lab.members, p) || has(lab.committed, p)) {
            return STATE;
        }
        int digest = lab.digestOf(secret, nonce);
        if (lab.isTaken(digest)) {
            return COPY;
        }
        history.remember(lab);
        lab.accept(p, secret, nonce);
        return digest & PUBLIC_BITS;
    }

    public int spoil(int p, int j, int by) {
        if (!lab.isParticipant(p) || !lab.isParticipant(j) || !isWithin(by, 1, Q - 1)) {
            return BAD;
        }
        if (!lab.hasShare(p, j)) {
            return NONE;
        }
        history.remember(lab);
        lab.people[p].changeShare(j, by, lab.threshold);
        return lab.people[p].shares[j];
    }

    public int complain(int j, int p) {
        if (!lab.isParticipant(j) || !lab.isParticipant(p) || j == p) {
            return BAD;
        }
        if (lab.phase != COMMITTING) {
            return STATE;
        }
        if (!lab.hasShare(p, j)) {
            return NONE;
        }
        history.remember(lab);
        if (has(lab.people[p].rightHolders, j)) {
            lab.payFine(j);
            return 0;
        }
        lab.expel(p);
        return 1;
    }

    public int beginOpening() {
        if (lab.phase != COMMITTING) {
            return STATE;
        }
        history.remember(lab);
        return lab.startOpening();
    }

    public int open(int p, int secret, int nonce) {
        if (!lab.isParticipant(p)) {
            return BAD;
        }
        if (lab.phase != OPENING || !has(lab.members, p) || has(lab.opened, p)) {
            return STATE;
        }
        history.remember(lab);
        if (lab.secrets[p] != secret || lab.people[p].nonce != nonce) {
            return 0;
        }
        lab.opened |= 1 << p;
        return 1;
    }

    public int close() {
        if (lab.phase != OPENING) {
            return STATE;
        }
        history.remember(lab);
        return lab.finish();
    }

    public int play(int seed) {
        if (!lab.canStart()) {
            return STATE;
        }
        history.remember(lab);
        return Game.playRound(lab, seed);
    }

    // ---- the round that is going on

    public int phase() {
        return lab.phase;
    }

    public int set(int what) {
        if (!isWithin(what, 0, 3)) {
            return BAD;
        }
        if (lab.phase == RESTING) {
            return STATE;
        }
        switch (what) {
            case 0:
                return lab.members;
            case 1:
                return lab.committed;
            case 2:
                return lab.opened;
            default:
                return lab.expelled;
        }
    }

    public int digest(int p) {
        if (!lab.isParticipant(p)) {
            return BAD;
        }
        if (!lab.isCommitted(p)) {
            return NONE;
        }
        return lab.people[p].digest & PUBLIC_BITS;
    }

    public int share(int p, int j) {
        if (!lab.isParticipant(p) || !lab.isParticipant(j)) {
            return BAD;
        }
        if (!lab.hasShare(p, j)) {
            return NONE;
        }
        return lab.people[p].shares[j];
    }

    public int isRight(int p, int j) {
        if (!lab.isParticipant(p) || !lab.isParticipant(j)) {
            return BAD;
        }
        if (!lab.hasShare(p, j)) {
            return NONE;
        }
        return has(lab.people[p].rightHolders, j) ? 1 : 0;
    }

    public int check(int p, int k) {
        if (!lab.isParticipant(p) || k < 0) {
            return BAD;
        }
        if (!lab.hasDealt(p) || k >= lab.threshold || k >= MOST_THRESHOLD) {
            return NONE;
        }
        return lab.people[p].checks[k];
    }

    public int recover(int p, int set) {
        if (!lab.isParticipant(p) || !isWithin(set, 0, ALL_SETS - 1)) {
            return BAD;
        }
        int holders = set & lab.members;
        if (!lab.hasDealt(p) || Integer.bitCount(holders) < lab.threshold) {
            return NONE;
        }
        return lab.people[p].valueAtZero(smallest(holders, lab.threshold));
    }

    public int lock(int p, int what) {
        if (!lab.isParticipant(p) || !isWithin(what, 0, 1)) {
            return BAD;
        }
        if (lab.method != DELAY || !lab.isCommitted(p)) {
            return NONE;
        }
        return what == 0 ? lab.people[p].lockBase : lab.people[p].lockNumber;
    }

    // ---- coalitions

    public int results(int coalition) {
        if (!isWithin(coalition, 0, ALL_SETS - 1)) {
            return BAD;
        }
        if (!lab.canConspire(coalition)) {
            return STATE;
        }
        coalitions.gather(lab, coalition);
        return coalitions.countResults(lab);
    }

    public int canForce(int coalition, int coin) {
        if (!isWithin(coalition, 0, ALL_SETS - 1) || !isWithin(coin, 0, 1)) {
            return BAD;
        }
        if (!lab.canConspire(coalition)) {
            return STATE;
        }
        coalitions.gather(lab, coalition);
        return coalitions.reaches(lab, lab.secrets, coin) ? 1 : 0;
    }

    public int bias(int coalition, int bits) {
        if (!isWithin(coalition, 0, ALL_SETS - 1) || !isWithin(bits, 1, MOST_BITS)) {
            return BAD;
        }
        if (!lab.canConspire(coalition)) {
            return STATE;
        }
        int others = lab.members & ~coalition;
        if (bits * Integer.bitCount(others) > MOST_BITS_IN_ALL) {
            return FULL;
        }
        coalitions.gather(lab, coalition);
        return coalitions.countForced(lab, others, bits);
    }

    // ---- slow computations

    public int slow(int b, int d) {
        if (!isSlowTask(b, d)) {
            return BAD;
        }
        return SlowWork.value(b, d);
    }

    public int quick(int b, int d) {
        if (!isWithin(b, 2, FACTOR_A - 1) || !isWithin(d, 0, MOST_QUICK_DELAY)) {
            return BAD;
        }
        return SlowWork.valueByFactors(b, d);
    }

    public int prime(int b, int d) {
        if (!isSlowTask(b, d)) {
            return BAD;
        }
        return SlowWork.challenge(b, SlowWork.value(b, d));
    }

    public int proof(int b, int d) {
        if (!isSlowTask(b, d)) {
            return BAD;
        }
        return SlowWork.evidence(b, d, SlowWork.challenge(b, SlowWork.value(b, d)));
    }

    public int accepts(int b, int d, int y, int proof) {
        if (!isWithin(b, 2, MOST_BASE) || !isWithin(d, 0, MOST_QUICK_DELAY)
                || !isWithin(y, 0, N - 1) || !isWithin(proof, 0, N - 1)) {
            return BAD;
        }
        return SlowWork.isProven(b, d, y, proof) ? 1 : 0;
    }

    // ---- balances, history

    public int account(int p, int what) {
        if (!lab.isParticipant(p) || !isWithin(what, 0, 4)) {
            return BAD;
        }
        Person person = lab.people[p];
        switch (what) {
            case 0:
                return person.balance;
            case 1:
                return person.roundsOpened;
            case 2:
                return person.roundsWithheld;
            case 3:
                return person.roundsExpelled;
            default:
                return person.behavior;
        }
    }

    public int pot() {
        return lab.pot;
    }

    public int rounds() {
        return lab.chronicle.ended;
    }

    public int past(int round, int what) {
        if (round < 0 || !isWithin(what, 0, 4)) {
            return BAD;
        }
        if (!lab.chronicle.keeps(round)) {
            return NONE;
        }
        return lab.chronicle.entry(round, what);
    }

    public int output(int round) {
        if (!lab.chronicle.keeps(round)) {
            return 0;
        }
        return lab.chronicle.entry(round, Chronicle.OUTPUT);
    }

    public int coins(int coin) {
        if (!isWithin(coin, 0, 1)) {
            return BAD;
        }
        return coin == 1 ? lab.chronicle.ones : lab.chronicle.zeros;
    }

    public int longestRun() {
        return lab.chronicle.longest;
    }

    public int undo() {
        if (history.size == 0) {
            return STATE;
        }
        history.restore(lab);
        return history.size;
    }

    public long fingerprint() {
        long print = 23;
        print = 31 * print + phase();
        print = 31 * print + rounds();
        print = 31 * print + pot();
        print = 31 * print + lab.chronicle.latestOutput;
        for (int p = 0; p < lab.count; p++) {
            for (int what = 0; what <= 4; what++) {
                print = 31 * print + account(p, what);
            }
        }
        if (lab.phase == RESTING) {
            return print;
        }
        for (int what = 0; what <= 3; what++) {
            print = 31 * print + set(what);
        }
        for (int p = 0; p < lab.count; p++) {
            print = 31 * print + digest(p);
        }
        return print;
    }

    // ---- numbers and sets

    private static boolean isWithin(int value, int least, int greatest) {
        return value >= least && value <= greatest;
    }

    private static boolean isSlowTask(int b, int d) {
        return isWithin(b, 2, MOST_BASE) && isWithin(d, 0, MOST_DELAY);
    }

    private static boolean has(int set, int p) {
        return (set >>> p & 1) == 1;
    }

    /** The subset of the given number of members with the smallest numbers. */
    private static int smallest(int set, int number) {
        int chosen = 0;
        for (int p = 0; p < MOST_PARTICIPANTS; p++) {
            if (has(set, p) && Integer.bitCount(chosen) < number) {
                chosen |= 1 << p;
            }
        }
        return chosen;
    }

    private static int mix(int h, int v) {
        int y = (h ^ v) * -1640531535;
        return y ^ (y >>> 15);
    }

    /** The state of the generator after a draw. */
    private static int stepped(int state) {
        return 1103515245 * state + 12345;
    }

    /** What a draw returns that led to this state of the generator. */
    private static int drawn(int state) {
        return state >>> 16;
    }

    /** A product modulo a number that is at least 1; the factors are from 0 to N - 1. */
    private static int product(int a, int b, int modulus) {
        if (modulus < 1) {
            return 0;
        }
        return (int) ((long) a * b % modulus);
    }

    /** A power modulo a number that is greater than 1; the exponent is not negative. */
    private static int power(int base, int exponent, int modulus) {
        int result = 1;
        for (int bit = 30; bit >= 0; bit--) {
            result = product(result, result, modulus);
            if (has(exponent, bit)) {
                result = product(result, base, modulus);
            }
        }
        return result;
    }

    /** Slow computations, their proofs, and the tests of these. */
    private static final class SlowWork {

        static int value(int b, int d) {
            int y = b % N;
            for (int step = 0; step < d; step++) {
                y = product(y, y, N);
            }
            return y;
        }

        /** Needs a base without a factor of N: then exponents count modulo (A - 1) * (B - 1). */
        static int valueByFactors(int b, int d) {
            int exponent = power(2, d, (FACTOR_A - 1) * (FACTOR_B - 1));
            return power(b, exponent, N);
        }

        static int challenge(int b, int y) {
            return leastPrime(257 + (mix(mix(19, b), y) >>> 22));
        }

        /** b to the power floor(2^d / prime): a long division brings the exponent's bits. */
        static int evidence(int b, int d, int prime) {
            int result = 1;
            int remainder = 1;
            for (int step = 0; step < d; step++) {
                result = product(result, result, N);
                remainder = 2 * remainder;
                if (remainder >= prime) {
                    remainder -= prime;
                    result = product(result, b, N);
                }
            }
            return result;
        }

        static boolean isProven(int b, int d, int y, int proof) {
            int prime = challenge(b, y);
            int remainder = power(2, d, prime);
            return product(power(proof, prime, N), power(b, remainder, N), N) == y;
        }

        /** There is always a prime number below the double of a number. */
        private static int leastPrime(int from) {
            for (int candidate = from; candidate < 2 * from; candidate++) {
                if (isPrime(candidate)) {
                    return candidate;
                }
            }
            return from;
        }

        private static boolean isPrime(int number) {
            for (int divisor = 2; divisor * divisor <= number; divisor++) {
                if (number % divisor == 0) {
                    return false;
                }
            }
            return number >= 2;
        }
    }

    /** A participant: its account, and what it committed to in the latest round. */
    private static final class Person {
        int balance;
        int behavior;
        int roundsOpened;
        int roundsWithheld;
        int roundsExpelled;
        int nonce;
        int digest;
        int lockBase;
        int lockNumber;
        /** The set of those whose share from this person is right. */
        int rightHolders;
        final int[] shares = new int[MOST_PARTICIPANTS];
        final int[] checks = new int[MOST_THRESHOLD];

        void copy(Person other) {
            balance = other.balance;
            behavior = other.behavior;
            roundsOpened = other.roundsOpened;
            roundsWithheld = other.roundsWithheld;
            roundsExpelled = other.roundsExpelled;
            nonce = other.nonce;
            digest = other.digest;
            lockBase = other.lockBase;
            lockNumber = other.lockNumber;
            rightHolders = other.rightHolders;
            System.arraycopy(other.shares, 0, shares, 0, MOST_PARTICIPANTS);
            System.arraycopy(other.checks, 0, checks, 0, MOST_THRESHOLD);
        }

        /** Deals to every number, member or not: only members' shares can be asked for. */
        void deal(int secret, int threshold) {
            for (int j = 0; j < MOST_PARTICIPANTS; j++) {
                shares[j] = 0;
            }
            int state = nonce;
            int coefficient = secret;
            for (int k = 0; k < threshold && k < MOST_THRESHOLD; k++) {
                checks[k] = power(G, coefficient, P);
                for (int j = 0; j < MOST_PARTICIPANTS; j++) {
                    shares[j] = (shares[j] + coefficient * power(j + 1, k, Q)) % Q;
                }
                state = stepped(state);
                coefficient = drawn(state) % Q;
            }
            rightHolders = ALL_SETS - 1;
        }

        void putLock(int secret, int delay) {
            lockBase = 2 + drawn(stepped(nonce)) % 1000;
            lockNumber = (secret + SlowWork.value(lockBase, delay)) % Q;
        }

        void changeShare(int j, int by, int threshold) {
            shares[j] = (shares[j] + by) % Q;
            rightHolders &= ~(1 << j);
            if (power(G, shares[j], P) == provenPower(j, threshold)) {
                rightHolders |= 1 << j;
            }
        }

        /** The product of all ck to the power (j + 1)^k, modulo P, from the last ck to the first. */
        private int provenPower(int j, int threshold) {
            int result = 1;
            for (int k = MOST_THRESHOLD - 1; k >= 0; k--) {
                if (k < threshold) {
                    result = product(power(result, j + 1, P), checks[k], P);
                }
            }
            return result;
        }

        /** The value at 0 of the polynomial through the shares of the holders (Lagrange). */
        int valueAtZero(int holders) {
            int value = 0;
            for (int j = 0; j < MOST_PARTICIPANTS; j++) {
                if (has(holders, j)) {
                    value = (value + product(shares[j], weight(j, holders), Q)) % Q;
                }
            }
            return value;
        }

        private static int weight(int j, int holders) {
            int above = 1;
            int below = 1;
            for (int i = 0; i < MOST_PARTICIPANTS; i++) {
                if (i != j && has(holders, i)) {
                    above = product(above, i + 1, Q);
                    below = product(below, (i - j + Q) % Q, Q);
                }
            }
            // Q is a prime, so this power is the inverse
            return product(above, power(below, Q - 2, Q), Q);
        }
    }

    /** The rounds that ended: counts over all of them, and the latest ones themselves. */
    private static final class Chronicle {
        static final int OUTPUT = 5;
        private static final int KEPT = 16;
        private static final int WIDTH = 6;

        int ended;
        int latestOutput;
        int zeros;
        int ones;
        int longest;
        private int run;
        private int runCoin;
        private final int[] entries = new int[KEPT * WIDTH];

        void copy(Chronicle other) {
            ended = other.ended;
            latestOutput = other.latestOutput;
            zeros = other.zeros;
            ones = other.ones;
            longest = other.longest;
            run = other.run;
            runCoin = other.runCoin;
            System.arraycopy(other.entries, 0, entries, 0, KEPT * WIDTH);
        }

        boolean keeps(int round) {
            return round >= 0 && round < ended && round >= ended - KEPT;
        }

        /** For a round that is kept; what is as in past(), or OUTPUT. */
        int entry(int round, int what) {
            return entries[round % KEPT * WIDTH + what];
        }

        void addFailure(int members, int opened, int method) {
            put(FAILED, members, opened, 0, method, 0);
            run = 0;
        }

        void addOutput(int output, int members, int opened, int method) {
            int coin = output & 1;
            int unopened = Integer.bitCount(members) - opened;
            put(coin, members, opened, unopened, method, output);
            latestOutput = output;
            if (coin == 1) {
                ones++;
            } else {
                zeros++;
            }
            run = runCoin == coin ? run + 1 : 1;
            runCoin = coin;
            longest = Math.max(longest, run);
        }

        private void put(int coin, int members, int opened, int unopened, int method, int output) {
            int at = ended % KEPT * WIDTH;
            entries[at] = coin;
            entries[at + 1] = members;
            entries[at + 2] = opened;
            entries[at + 3] = unopened;
            entries[at + 4] = method;
            entries[at + OUTPUT] = output;
            ended++;
        }
    }

    /**
     * The state of a laboratory. Sets are ints, bit k for participant k; the committed and the
     * opened ones are always members.
     */
    private static final class Lab {
        /** No set of members: some secret is neither opened nor recovered. */
        static final int LOST = -1;

        final Person[] people = new Person[MOST_PARTICIPANTS];
        final int[] secrets = new int[MOST_PARTICIPANTS];
        final Chronicle chronicle = new Chronicle();
        int count;
        int pot;
        int method = ZERO;
        int threshold = 2;
        int fine = 10;
        int delay = 100;
        int phase = RESTING;
        int members;
        int committed;
        int opened;
        int expelled;

        Lab() {
            for (int p = 0; p < MOST_PARTICIPANTS; p++) {
                people[p] = new Person();
            }
        }

        void copy(Lab other) {
            for (int p = 0; p < MOST_PARTICIPANTS; p++) {
                people[p].copy(other.people[p]);
            }
            System.arraycopy(other.secrets, 0, secrets, 0, MOST_PARTICIPANTS);
            chronicle.copy(other.chronicle);
            count = other.count;
            pot = other.pot;
            method = other.method;
            threshold = other.threshold;
            fine = other.fine;
            delay = other.delay;
            phase = other.phase;
            members = other.members;
            committed = other.committed;
            opened = other.opened;
            expelled = other.expelled;
        }

        boolean isParticipant(int p) {
            return p >= 0 && p < count && p < MOST_PARTICIPANTS;
        }

        boolean isCommitted(int p) {
            return phase != RESTING && has(committed, p);
        }

        boolean hasDealt(int p) {
            return method == SHARES && isCommitted(p);
        }

        boolean hasShare(int p, int j) {
            return hasDealt(p) && has(members, j);
        }

        boolean canConspire(int coalition) {
            return phase == OPENING && (coalition & ~(members & ~opened)) == 0;
        }

        int admit(int balance) {
            if (count >= MOST_PARTICIPANTS) {
                return FULL;
            }
            people[count].balance = balance;
            count++;
            return count - 1;
        }

        boolean canStart() {
            int able = Integer.bitCount(ableToPay());
            return phase == RESTING && able >= 2 && (method != SHARES || able >= threshold);
        }

        private int ableToPay() {
            int able = 0;
            for (int p = 0; p < MOST_PARTICIPANTS; p++) {
                if (p < count && people[p].balance >= fine) {
                    able |= 1 << p;
                }
            }
            return able;
        }

        void start() {
            phase = COMMITTING;
            members = ableToPay();
            committed = 0;
            opened = 0;
            expelled = 0;
        }

        int digestOf(int secret, int nonce) {
            return mix(mix(mix(17, chronicle.ended), secret), nonce);
        }

        boolean isTaken(int digest) {
            for (int p = 0; p < MOST_PARTICIPANTS; p++) {
                if (has(committed, p) && people[p].digest == digest) {
                    return true;
                }
            }
            return false;
        }

        /** p is a member that has not committed. */
        void accept(int p, int secret, int nonce) {
            Person person = people[p];
            secrets[p] = secret;
            person.nonce = nonce;
            person.digest = digestOf(secret, nonce);
            committed |= 1 << p;
            if (method == SHARES) {
                person.deal(secret, threshold);
            }
            if (method == DELAY) {
                person.putLock(secret, delay);
            }
        }

        void payFine(int p) {
            int amount = Math.min(fine, people[p].balance);
            people[p].balance -= amount;
            pot += amount;
        }

        void expel(int p) {
            payFine(p);
            people[p].roundsExpelled++;
            expelled |= 1 << p;
            members &= ~(1 << p);
            committed &= ~(1 << p);
        }

        /** Returns the number of members left, or FAILED. */
        int startOpening() {
            members = committed;
            int left = Integer.bitCount(members);
            if (left < 2) {
                chronicle.addFailure(members, 0, method);
                phase = RESTING;
                return FAILED;
            }
            phase = OPENING;
            return left;
        }

        /** Returns the coin, or FAILED. */
        int finish() {
            int counted = countedIf(opened);
            chargeOrCredit();
            phase = RESTING;
            int openers = Integer.bitCount(opened);
            if (counted == LOST) {
                chronicle.addFailure(members, openers, method);
                return FAILED;
            }
            int output = mixed(secrets, counted);
            chronicle.addOutput(output, members, openers, method);
            sharePot(openers);
            return output & 1;
        }

        private void chargeOrCredit() {
            for (int p = 0; p < MOST_PARTICIPANTS; p++) {
                if (has(opened, p)) {
                    people[p].roundsOpened++;
                } else if (has(members, p)) {
                    people[p].roundsWithheld++;
                    payFine(p);
                }
            }
        }

        private void sharePot(int openers) {
            if (openers == 0) {
                return;
            }
            int part = pot / openers;
            for (int p = 0; p < MOST_PARTICIPANTS; p++) {
                if (has(opened, p)) {
                    people[p].balance += part;
                    pot -= part;
                }
            }
        }

        /**
         * The members whose secrets are mixed in if exactly the openers open; the others count as
         * zero. LOST if the round fails. What is recovered is always the secret committed to, so
         * nothing has to be computed for it.
         */
        int countedIf(int openers) {
            if (method == ZERO) {
                return openers;
            }
            if (method == SHARES && !canRecoverAll(openers)) {
                return LOST;
            }
            return members;
        }

        private boolean canRecoverAll(int openers) {
            for (int p = 0; p < MOST_PARTICIPANTS; p++) {
                if (has(members & ~openers, p)
                        && Integer.bitCount(openers & people[p].rightHolders) < threshold) {
                    return false;
                }
            }
            return true;
        }

        /** The output if the members have these secrets and the counted ones' are mixed in. */
        int mixed(int[] row, int counted) {
            int h = chronicle.latestOutput;
            for (int p = 0; p < MOST_PARTICIPANTS && p < row.length; p++) {
                if (has(members, p)) {
                    h = mix(h, has(counted, p) ? row[p] : 0);
                }
            }
            return h;
        }
    }

    /** Plays whole rounds. */
    private static final class Game {

        /** For a laboratory in which a round can begin. */
        static int playRound(Lab lab, int seed) {
            lab.start();
            commitAll(lab, seed);
            if (lab.method == SHARES) {
                cheat(lab);
                complainAll(lab);
            }
            if (lab.startOpening() == FAILED) {
                return FAILED;
            }
            openHonest(lab);
            openSelfish(lab);
            return lab.finish();
        }

        private static void commitAll(Lab lab, int seed) {
            int state = seed;
            for (int p = 0; p < MOST_PARTICIPANTS; p++) {
                if (has(lab.members, p)) {
                    state = stepped(state);
                    int secret = drawn(state) % Q;
                    state = stepped(state);
                    int nonce = drawn(state);
                    if (!lab.isTaken(lab.digestOf(secret, nonce))) {
                        lab.accept(p, secret, nonce);
                    }
                }
            }
        }

        private static void cheat(Lab lab) {
            for (int p = 0; p < MOST_PARTICIPANTS; p++) {
                if (has(lab.committed, p) && lab.people[p].behavior == CHEATING) {
                    lab.people[p].changeShare(memberAfter(lab, p), 1, lab.threshold);
                }
            }
        }

        private static int memberAfter(Lab lab, int p) {
            for (int step = 1; step < MOST_PARTICIPANTS; step++) {
                int next = (p + step) % MOST_PARTICIPANTS;
                if (has(lab.members, next)) {
                    return next;
                }
            }
            return p;
        }

        private static void complainAll(Lab lab) {
            for (int j = 0; j < MOST_PARTICIPANTS; j++) {
                for (int p = 0; p < MOST_PARTICIPANTS; p++) {
                    if (j != p && has(lab.members, j) && has(lab.committed, p)
                            && !has(lab.people[p].rightHolders, j)) {
                        lab.expel(p);
                    }
                }
            }
        }

        private static void openHonest(Lab lab) {
            for (int p = 0; p < MOST_PARTICIPANTS; p++) {
                int behavior = lab.people[p].behavior;
                if (has(lab.members, p) && (behavior == HONEST || behavior == CHEATING)) {
                    lab.opened |= 1 << p;
                }
            }
        }

        private static void openSelfish(Lab lab) {
            for (int p = 0; p < MOST_PARTICIPANTS; p++) {
                if (has(lab.members, p) && lab.people[p].behavior == SELFISH) {
                    int withOwn = lab.opened | 1 << p;
                    if (!givesOne(lab, lab.opened) || givesOne(lab, withOwn)) {
                        lab.opened = withOwn;
                    }
                }
            }
        }

        private static boolean givesOne(Lab lab, int openers) {
            int counted = lab.countedIf(openers);
            return counted != Lab.LOST && (lab.mixed(lab.secrets, counted) & 1) == 1;
        }
    }

    /** The choices of a coalition, gathered once and looked at for many secrets. */
    private static final class Coalition {
        private final int[] counted = new int[ALL_SETS];
        private final int[] outputs = new int[ALL_SETS];
        private final int[] secrets = new int[MOST_PARTICIPANTS];
        private int size;
        private boolean canFail;

        /** Only different sets of counted secrets are kept: equal ones follow one another. */
        void gather(Lab lab, int coalition) {
            size = 0;
            canFail = false;
            int others = lab.members & ~coalition;
            for (int choice = 0; choice < ALL_SETS; choice++) {
                if ((choice & ~coalition) == 0) {
                    add(lab.countedIf(others | choice));
                }
            }
        }

        private void add(int set) {
            if (set == Lab.LOST) {
                canFail = true;
                return;
            }
            boolean isKnown = size > 0 && size <= counted.length && counted[size - 1] == set;
            if (!isKnown && size < counted.length) {
                counted[size] = set;
                size++;
            }
        }

        int countResults(Lab lab) {
            int number = canFail ? 1 : 0;
            for (int i = 0; i < size && i < outputs.length; i++) {
                outputs[i] = lab.mixed(lab.secrets, counted[i]);
                if (isNew(i)) {
                    number++;
                }
            }
            return number;
        }

        private boolean isNew(int i) {
            for (int earlier = 0; earlier < i; earlier++) {
                if (outputs[earlier] == outputs[i]) {
                    return false;
                }
            }
            return true;
        }

        boolean reaches(Lab lab, int[] row, int coin) {
            for (int i = 0; i < size && i < counted.length; i++) {
                if ((lab.mixed(row, counted[i]) & 1) == coin) {
                    return true;
                }
            }
            return false;
        }

        int countForced(Lab lab, int others, int bits) {
            System.arraycopy(lab.secrets, 0, secrets, 0, MOST_PARTICIPANTS);
            int combinations = 1 << bits * Integer.bitCount(others);
            int number = 0;
            for (int combination = 0; combination < combinations; combination++) {
                spread(combination, others, bits);
                if (reaches(lab, secrets, 1)) {
                    number++;
                }
            }
            return number;
        }

        private void spread(int combination, int others, int bits) {
            int rest = combination;
            for (int p = 0; p < MOST_PARTICIPANTS; p++) {
                if (has(others, p)) {
                    secrets[p] = rest & ((1 << bits) - 1);
                    rest = rest >>> bits;
                }
            }
        }
    }

    /** The states before the latest acts. */
    private static final class History {
        private static final int KEPT = 4;

        private final Lab[] states = new Lab[KEPT];
        int size;

        History() {
            for (int i = 0; i < KEPT; i++) {
                states[i] = new Lab();
            }
        }

        void remember(Lab lab) {
            if (size >= KEPT) {
                dropOldest();
            }
            states[size].copy(lab);
            size++;
        }

        private void dropOldest() {
            Lab oldest = states[0];
            for (int i = 1; i < KEPT; i++) {
                states[i - 1] = states[i];
            }
            // its room is used again for the next state
            states[KEPT - 1] = oldest;
            size = KEPT - 1;
        }

        void restore(Lab lab) {
            if (size < 1 || size > KEPT) {
                return;
            }
            size--;
            lab.copy(states[size]);
        }
    }
}
