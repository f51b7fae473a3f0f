import java.math.BigInteger;
import java.util.ArrayDeque;
import java.util.ArrayList;
import java.util.HashSet;
import java.util.List;
import java.util.Random;
import java.util.Set;

/**
 * Plays long runs of calls on the class and on a model that takes the document literally: what is
 * withheld is really recovered, choices of coalitions are really closed, states are really copied.
 */
public final class ModelTest {
    static int wrong = 0;

    public static void main(String[] args) {
        int runs = args.length > 0 ? Integer.parseInt(args[0]) : 400;
        int from = args.length > 1 ? Integer.parseInt(args[1]) : 0;
        for (int run = from; run < from + runs && wrong == 0; run++) {
            new Driver(run).drive();
        }
        complainOfGaps(runs);
        System.out.println(wrong == 0 ? "model: " + runs + " runs agree" : "model: " + wrong + " answers differ");
        if (wrong != 0) {
            System.exit(1);
        }
    }

    /** The runs are worth little if some kind of answer never comes. */
    static void complainOfGaps(int runs) {
        if (runs < 100) {
            return;
        }
        String[] wanted = {
            "addParticipant -1", "addParticipant -2", "addParticipant -3", "behave -1", "setMethod -1", "setMethod -2",
            "setThreshold -1", "setThreshold -2", "setFine -1", "setFine -2", "setDelay -1", "setDelay -2", "begin -2",
            "commit -1", "commit -2", "commit -4", "spoil -1", "spoil -9", "complain -1", "complain -2", "complain -9",
            "complain 0", "complain 1", "beginOpening -2", "beginOpening -5", "open -1", "open -2", "open 0", "open 1",
            "close -2", "close -5", "close 0", "close 1", "play -2", "play -5", "play 0", "play 1", "set -1", "set -2",
            "digest -1", "digest -9", "share -1", "share -9", "isRight -1", "isRight -9", "isRight 0", "isRight 1",
            "check -1", "check -9", "recover -1", "recover -9", "lock -1", "lock -9", "results -1", "results -2",
            "canForce -1", "canForce -2", "canForce 0", "canForce 1", "bias -1", "bias -2", "bias -3", "slow -1",
            "quick -1", "prime -1", "proof -1", "accepts -1", "accepts 0", "accepts 1", "account -1", "past -1",
            "past -9", "past -5", "coins -1", "undo -2", "undo 0", "undo 3"};
        for (String answer : wanted) {
            if (!Driver.answers.contains(answer)) {
                wrong++;
                System.out.println("model: no run had the answer " + answer);
            }
        }
    }

    /** The state, held plainly; every call of it may be made on a copy. */
    static final class Model {
        static final int Q = 1019;
        static final BigInteger BP = BigInteger.valueOf(2039);
        static final BigInteger BN = BigInteger.valueOf(62615533);

        int n = 0, pot = 0, method = 0, threshold = 2, fine = 10, delay = 100, phase = 0;
        int[][] accounts = new int[8][5];
        boolean[] member = new boolean[8], committed = new boolean[8], opened = new boolean[8], expelled = new boolean[8];
        int[] secret = new int[8], nonce = new int[8], digest = new int[8], base = new int[8], lock = new int[8];
        int[][] share = new int[8][8], check = new int[8][8];
        // each: coin, members, opened, not opened, method, output
        List<int[]> ended = new ArrayList<>();

        Model copied() {
            Model c = new Model();
            c.n = n; c.pot = pot; c.method = method; c.threshold = threshold; c.fine = fine; c.delay = delay; c.phase = phase;
            for (int i = 0; i < 8; i++) {
                c.accounts[i] = accounts[i].clone();
                c.share[i] = share[i].clone();
                c.check[i] = check[i].clone();
            }
            c.member = member.clone(); c.committed = committed.clone(); c.opened = opened.clone(); c.expelled = expelled.clone();
            c.secret = secret.clone(); c.nonce = nonce.clone(); c.digest = digest.clone(); c.base = base.clone(); c.lock = lock.clone();
            c.ended = new ArrayList<>(ended);
            return c;
        }

        static int mix(int h, int v) {
            int x = h ^ v;
            int y = (int) (x * -1640531535L);
            return y ^ (y >>> 15);
        }

        static int next(int[] state) {
            state[0] = 1103515245 * state[0] + 12345;
            return state[0] >>> 16;
        }

        static BigInteger big(long v) { return BigInteger.valueOf(v); }

        static int slowly(int b, int d) {
            BigInteger v = big(b).mod(BN);
            for (int i = 0; i < d; i++) v = v.multiply(v).mod(BN);
            return v.intValue();
        }

        boolean known(int p) { return p >= 0 && p < n; }
        int number(boolean[] set) { int c = 0; for (boolean b : set) if (b) c++; return c; }
        int bits(boolean[] set) { int c = 0; for (int i = 0; i < 8; i++) if (set[i]) c += 1 << i; return c; }

        int add(int balance) {
            if (balance < 0 || balance > 1000000) return -1;
            if (phase != 0) return -2;
            if (n == 8) return -3;
            accounts[n][0] = balance;
            return n++;
        }

        int behave(int p, int b) {
            if (!known(p) || b < 0 || b > 3) return -1;
            int old = accounts[p][4];
            accounts[p][4] = b;
            return old;
        }

        int setting(int which, int v) {
            int[] low = {0, 1, 0, 1}, high = {2, 8, 1000, 5000};
            if (v < low[which] || v > high[which]) return -1;
            if (phase != 0) return -2;
            int old;
            switch (which) {
                case 0: old = method; method = v; break;
                case 1: old = threshold; threshold = v; break;
                case 2: old = fine; fine = v; break;
                default: old = delay; delay = v; break;
            }
            return old;
        }

        int begin() {
            int could = 0;
            for (int p = 0; p < n; p++) if (accounts[p][0] >= fine) could++;
            if (phase != 0 || could < 2 || (method == 1 && could < threshold)) return -2;
            for (int p = 0; p < 8; p++) {
                member[p] = p < n && accounts[p][0] >= fine;
                committed[p] = opened[p] = expelled[p] = false;
            }
            phase = 1;
            return ended.size();
        }

        int commit(int p, int s, int no) {
            if (!known(p) || s < 0 || s >= Q) return -1;
            if (phase != 1 || !member[p] || committed[p]) return -2;
            int d = mix(mix(mix(17, ended.size()), s), no);
            for (int o = 0; o < 8; o++) if (o != p && member[o] && committed[o] && digest[o] == d) return -4;
            committed[p] = true;
            secret[p] = s; nonce[p] = no; digest[p] = d;
            int[] gen = {no};
            if (method == 1) {
                int[] a = new int[threshold];
                a[0] = s;
                for (int k = 1; k < threshold; k++) a[k] = next(gen) % Q;
                for (int k = 0; k < threshold; k++) check[p][k] = big(4).modPow(big(a[k]), BP).intValue();
                for (int j = 0; j < 8; j++) {
                    BigInteger v = BigInteger.ZERO;
                    for (int k = 0; k < threshold; k++) v = v.add(big(a[k]).multiply(big(j + 1).pow(k)));
                    share[p][j] = v.mod(big(Q)).intValue();
                }
            }
            if (method == 2) {
                base[p] = 2 + next(gen) % 1000;
                lock[p] = (s + slowly(base[p], delay)) % Q;
            }
            return d & 1073741823;
        }

        boolean dealt(int p) { return phase != 0 && method == 1 && member[p] && committed[p]; }
        boolean has(int p, int j) { return dealt(p) && member[j]; }

        int spoil(int p, int j, int by) {
            if (!known(p) || !known(j) || by < 1 || by > Q - 1) return -1;
            if (!has(p, j)) return -9;
            return share[p][j] = (share[p][j] + by) % Q;
        }

        boolean right(int p, int j) {
            BigInteger product = BigInteger.ONE;
            for (int k = 0; k < threshold; k++) product = product.multiply(big(check[p][k]).modPow(big(j + 1).pow(k), BP)).mod(BP);
            return big(4).modPow(big(share[p][j]), BP).equals(product);
        }

        void pay(int p) {
            int amount = accounts[p][0] < fine ? accounts[p][0] : fine;
            accounts[p][0] -= amount;
            pot += amount;
        }

        int complain(int j, int p) {
            if (!known(j) || !known(p) || j == p) return -1;
            if (phase != 1) return -2;
            if (!has(p, j)) return -9;
            if (right(p, j)) { pay(j); return 0; }
            pay(p);
            accounts[p][3]++;
            expelled[p] = true;
            member[p] = false;
            return 1;
        }

        int beginOpening() {
            if (phase != 1) return -2;
            for (int p = 0; p < 8; p++) member[p] = member[p] && committed[p];
            int left = number(member);
            if (left < 2) { end(-5, 0, 0, 0); return -5; }
            phase = 2;
            return left;
        }

        void end(int coin, int open, int unopened, int output) {
            ended.add(new int[] {coin, bits(member), open, unopened, method, output});
            phase = 0;
        }

        int open(int p, int s, int no) {
            if (!known(p)) return -1;
            if (phase != 2 || !member[p] || opened[p]) return -2;
            if (s != secret[p] || no != nonce[p]) return 0;
            opened[p] = true;
            return 1;
        }

        int latest() {
            for (int r = ended.size() - 1; r >= 0; r--) if (ended.get(r)[0] != -5) return ended.get(r)[5];
            return 0;
        }

        /** The value at 0 of the polynomial through shares, as a fraction of big numbers. */
        int interpolated(int p, List<Integer> who) {
            BigInteger sum = BigInteger.ZERO, q = big(Q);
            for (int i : who) {
                BigInteger top = big(share[p][i]), bottom = BigInteger.ONE;
                for (int m : who) if (m != i) { top = top.multiply(big(-(m + 1))); bottom = bottom.multiply(big(i - m)); }
                sum = sum.add(top.multiply(bottom.modInverse(q)));
            }
            return sum.mod(q).intValue();
        }

        int close() {
            if (phase != 2) return -2;
            int h = latest();
            boolean failed = false;
            for (int p = 0; p < 8; p++) if (member[p]) {
                if (opened[p]) { accounts[p][1]++; h = mix(h, secret[p]); continue; }
                pay(p);
                accounts[p][2]++;
                int c = 0;
                if (method == 1) {
                    List<Integer> who = new ArrayList<>();
                    for (int j = 0; j < 8; j++) if (member[j] && opened[j] && right(p, j) && who.size() < threshold) who.add(j);
                    if (who.size() < threshold) failed = true; else c = interpolated(p, who);
                } else if (method == 2) {
                    c = Math.floorMod(lock[p] - slowly(base[p], delay), Q);
                }
                h = mix(h, c);
            }
            int open = number(opened);
            if (failed) { end(-5, open, 0, 0); return -5; }
            int unopened = number(member) - open;
            if (open > 0) {
                int part = pot / open;
                for (int p = 0; p < 8; p++) if (opened[p]) { accounts[p][0] += part; pot -= part; }
            }
            end(h & 1, open, unopened, h);
            return h & 1;
        }

        int play(int seed) {
            int begun = begin();
            if (begun < 0) return begun;
            int[] gen = {seed};
            for (int p = 0; p < 8; p++) if (member[p]) {
                int s = next(gen) % Q;
                int no = next(gen);
                commit(p, s, no);
            }
            if (method == 1) {
                for (int p = 0; p < 8; p++) if (member[p] && committed[p] && accounts[p][4] == 3) {
                    int j = p;
                    do { j = (j + 1) % 8; } while (!member[j]);
                    spoil(p, j, 1);
                }
                for (int j = 0; j < 8; j++) for (int p = 0; p < 8; p++)
                    if (p != j && member[j] && member[p] && committed[p] && !right(p, j)) complain(j, p);
            }
            if (beginOpening() < 0) return -5;
            for (int p = 0; p < 8; p++) if (member[p] && accounts[p][4] % 3 == 0) open(p, secret[p], nonce[p]);
            for (int p = 0; p < 8; p++) if (member[p] && accounts[p][4] == 2) {
                int now = copied().close();
                Model then = copied();
                then.open(p, secret[p], nonce[p]);
                if (now == 1 && then.close() != 1) continue;
                open(p, secret[p], nonce[p]);
            }
            return close();
        }

        int set(int what) {
            if (what < 0 || what > 3) return -1;
            if (phase == 0) return -2;
            boolean[] both = new boolean[8];
            for (int p = 0; p < 8; p++) both[p] = member[p] && (what == 1 ? committed[p] : what != 2 || opened[p]);
            return what == 3 ? bits(expelled) : bits(both);
        }

        int digest(int p) {
            if (!known(p)) return -1;
            return phase == 0 || !member[p] || !committed[p] ? -9 : digest[p] & 1073741823;
        }

        int share(int p, int j) { return !known(p) || !known(j) ? -1 : !has(p, j) ? -9 : share[p][j]; }
        int isRight(int p, int j) { return !known(p) || !known(j) ? -1 : !has(p, j) ? -9 : right(p, j) ? 1 : 0; }
        int check(int p, int k) { return !known(p) || k < 0 ? -1 : !dealt(p) || k >= threshold ? -9 : check[p][k]; }

        int recover(int p, int set) {
            if (!known(p) || set < 0 || set > 255) return -1;
            List<Integer> who = new ArrayList<>();
            for (int j = 0; j < 8; j++) if (phase != 0 && member[j] && (set & 1 << j) != 0 && who.size() < threshold) who.add(j);
            return who.size() < threshold || !dealt(p) ? -9 : interpolated(p, who);
        }

        int lock(int p, int what) {
            if (!known(p) || what < 0 || what > 1) return -1;
            if (phase == 0 || method != 2 || !member[p] || !committed[p]) return -9;
            return what == 0 ? base[p] : lock[p];
        }

        boolean mayConspire(int coalition) {
            if (phase != 2) return false;
            for (int p = 0; p < 8; p++) if ((coalition & 1 << p) != 0 && (!member[p] || opened[p])) return false;
            return true;
        }

        /** The results of all choices, each from closing a copy; a failure is null. */
        List<Integer> outcomes(int coalition) {
            List<Integer> all = new ArrayList<>();
            for (int choice = 0; choice < 256; choice++) if ((choice & coalition) == choice) {
                Model c = copied();
                for (int p = 0; p < 8; p++) if (c.member[p] && ((coalition & 1 << p) == 0 || (choice & 1 << p) != 0)) c.opened[p] = true;
                int coin = c.close();
                all.add(coin == -5 ? null : Integer.valueOf(c.latest()));
            }
            return all;
        }

        int results(int coalition) {
            if (coalition < 0 || coalition > 255) return -1;
            if (!mayConspire(coalition)) return -2;
            Set<Integer> different = new HashSet<>(outcomes(coalition));
            return different.size();
        }

        int canForce(int coalition, int coin) {
            if (coalition < 0 || coalition > 255 || coin < 0 || coin > 1) return -1;
            if (!mayConspire(coalition)) return -2;
            for (Integer o : outcomes(coalition)) if (o != null && (o & 1) == coin) return 1;
            return 0;
        }

        int bias(int coalition, int bits) {
            if (coalition < 0 || coalition > 255 || bits < 1 || bits > 4) return -1;
            if (!mayConspire(coalition)) return -2;
            List<Integer> outside = new ArrayList<>();
            for (int p = 0; p < 8; p++) if (member[p] && (coalition & 1 << p) == 0) outside.add(p);
            if (bits * outside.size() > 12) return -3;
            return combined(copied(), coalition, bits, outside, 0);
        }

        static int combined(Model m, int coalition, int bits, List<Integer> outside, int at) {
            if (at == outside.size()) return m.canForce(coalition, 1);
            int sum = 0;
            for (int s = 0; s < 1 << bits; s++) {
                m.secret[outside.get(at)] = s;
                sum += combined(m, coalition, bits, outside, at + 1);
            }
            return sum;
        }

        static boolean task(int b, int d) { return b >= 2 && b <= 100000 && d >= 0 && d <= 5000; }
        static int slow(int b, int d) { return task(b, d) ? slowly(b, d) : -1; }

        static int quick(int b, int d) {
            if (b < 2 || b > 7906 || d < 0 || d > 1000000000) return -1;
            // by the remainders modulo the two factors, put together by the Chinese remainder theorem
            BigInteger f = big(7907), g = big(7919);
            BigInteger x = big(b).modPow(big(2).modPow(big(d), big(7906)), f);
            BigInteger y = big(b).modPow(big(2).modPow(big(d), big(7918)), g);
            return x.add(f.multiply(y.subtract(x).multiply(f.modInverse(g)).mod(g))).mod(BN).intValue();
        }

        static int primeFor(int b, int y) {
            BigInteger least = big(257 + (mix(mix(19, b), y) >>> 22));
            return least.subtract(BigInteger.ONE).nextProbablePrime().intValue();
        }

        static int prime(int b, int d) { return task(b, d) ? primeFor(b, slowly(b, d)) : -1; }

        static int proof(int b, int d) {
            if (!task(b, d)) return -1;
            return big(b).modPow(BigInteger.ONE.shiftLeft(d).divide(big(prime(b, d))), BN).intValue();
        }

        static int accepts(int b, int d, int y, int w) {
            if (b < 2 || b > 100000 || d < 0 || d > 1000000000 || y < 0 || y > 62615532 || w < 0 || w > 62615532) return -1;
            BigInteger l = big(primeFor(b, y));
            BigInteger left = big(w).modPow(l, BN).multiply(big(b).modPow(big(2).modPow(big(d), l), BN)).mod(BN);
            return left.equals(big(y)) ? 1 : 0;
        }

        int account(int p, int what) { return !known(p) || what < 0 || what > 4 ? -1 : accounts[p][what]; }
        boolean kept(int r) { return r >= 0 && r < ended.size() && r >= ended.size() - 16; }
        int past(int r, int what) { return r < 0 || what < 0 || what > 4 ? -1 : !kept(r) ? -9 : ended.get(r)[what]; }
        int output(int r) { return kept(r) ? ended.get(r)[5] : 0; }

        int coins(int coin) {
            if (coin < 0 || coin > 1) return -1;
            int c = 0;
            for (int[] r : ended) if (r[0] == coin) c++;
            return c;
        }

        int longestRun() {
            int longest = 0;
            for (int from = 0; from < ended.size(); from++) for (int to = from; to < ended.size(); to++) {
                boolean same = true;
                for (int r = from; r <= to; r++) if (ended.get(r)[0] < 0 || ended.get(r)[0] != ended.get(from)[0]) same = false;
                if (!same) break;
                longest = Math.max(longest, to - from + 1);
            }
            return longest;
        }

        long fingerprint() {
            List<Integer> numbers = new ArrayList<>(List.of(phase, ended.size(), pot, latest()));
            for (int p = 0; p < n; p++) for (int what = 0; what < 5; what++) numbers.add(account(p, what));
            if (phase != 0) {
                for (int what = 0; what < 4; what++) numbers.add(set(what));
                for (int p = 0; p < n; p++) numbers.add(digest(p));
            }
            long f = 23;
            for (int v : numbers) f = f * 31 + v;
            return f;
        }
    }

    /** Makes one run of at most 512 calls on both. */
    static final class Driver {
        static final Set<String> answers = new HashSet<>();
        final int run;
        final Random random;
        final OwnerlessCoin real = new OwnerlessCoin();
        Model model = new Model();
        final ArrayDeque<Model> states = new ArrayDeque<>();
        int calls = 0;
        final List<String> log = new ArrayList<>();
        // what each run likes
        final int likedMethod, likedDelay, style;

        Driver(int run) {
            this.run = run;
            random = new Random(run * 7919L + 13);
            likedMethod = run % 3;
            likedDelay = run % 40 == 2 ? 5000 : 1 + random.nextInt(60);
            style = random.nextInt(4);
        }

        int some(int bound) { return random.nextInt(bound); }
        boolean chance(int percent) { return some(100) < percent; }
        int person() { return chance(93) && model.n > 0 ? some(model.n) : some(11) - 2; }

        int in(int low, int high) {
            int r = some(100);
            if (r < 2) return low - 1;
            if (r < 4) return high + 1;
            if (r < 6) return low;
            if (r < 8) return high;
            if (r < 9) return chance(50) ? Integer.MIN_VALUE : Integer.MAX_VALUE;
            return low + some(high - low + 1);
        }

        void due(String call, long got, long want) {
            calls++;
            String name = call.substring(0, call.indexOf('('));
            if (want <= 3) answers.add(name + " " + want);
            log.add(call + " -> " + got);
            if (got != want) {
                wrong++;
                System.out.println("run " + run + ", call " + calls + ": " + call + " answered " + got + ", due is " + want);
                for (String line : log) System.out.println("    " + line);
            }
        }

        /** An act of the model on a copy; kept if it is no error. The error codes differ from FAILED. */
        int act(java.util.function.ToIntFunction<Model> f) {
            Model before = model.copied();
            int answer = f.applyAsInt(model);
            boolean error = answer < 0 && answer != -5;
            if (error) {
                model = before;
            } else {
                states.addLast(before);
                if (states.size() > 4) states.removeFirst();
            }
            return answer;
        }

        void drive() {
            int people = 2 + some(7);
            if (likedMethod != 0) setMethod(likedMethod);
            for (int i = 0; i < people; i++) addParticipant(chance(80) ? 20 + some(200) : some(30));
            if (chance(50)) { int f = some(40); due("setFine(" + f + ")", real.setFine(f), act(m -> m.setting(2, f))); }
            int t = chance(80) ? 1 + some(Math.max(1, people - 1)) : 1 + some(8);
            due("setThreshold(" + t + ")", real.setThreshold(t), act(m -> m.setting(1, t)));
            due("setDelay(" + likedDelay + ")", real.setDelay(likedDelay), act(m -> m.setting(3, likedDelay)));
            while (calls < 500 && wrong == 0) {
                int r = some(100);
                if (r < 48) progress(); else if (r < 60) setup(); else if (r < 66) undo(); else ask();
                due("fingerprint()", real.fingerprint(), model.fingerprint());
            }
        }

        void addParticipant(int b) { due("addParticipant(" + b + ")", real.addParticipant(b), act(m -> m.add(b))); }
        void setMethod(int v) { due("setMethod(" + v + ")", real.setMethod(v), act(m -> m.setting(0, v))); }

        void setup() {
            switch (some(7)) {
                case 0: addParticipant(in(0, chance(50) ? 100 : 1000000)); break;
                case 1: case 2: {
                    int p = person(), b = in(0, 3);
                    due("behave(" + p + ", " + b + ")", real.behave(p, b), act(m -> m.behave(p, b)));
                    break;
                }
                case 3: setMethod(chance(60) ? likedMethod : in(0, 2)); break;
                case 4: { int v = in(1, chance(70) ? 3 : 8); due("setThreshold(" + v + ")", real.setThreshold(v), act(m -> m.setting(1, v))); break; }
                case 5: {
                    int v = chance(80) ? some(30) : in(0, 1000);
                    due("setFine(" + v + ")", real.setFine(v), act(m -> m.setting(2, v)));
                    break;
                }
                default: {
                    int v = chance(60) ? likedDelay : in(1, chance(80) ? 100 : 5000);
                    due("setDelay(" + v + ")", real.setDelay(v), act(m -> m.setting(3, v)));
                    break;
                }
            }
        }

        void progress() {
            if (chance(8)) { outOfTurn(); return; }
            if (model.phase == 0) {
                if (chance(style == 0 ? 80 : style == 1 ? 20 : 40)) play(); else begin();
            } else if (model.phase == 1) {
                int r = some(100);
                if (r < 70) commit(); else if (r < 78) spoil(); else if (r < 86) complain();
                else if (model.number(model.committed) >= 2 || chance(20)) beginOpening();
            } else {
                int r = some(100);
                if (r < 50) open(); else if (r < 60) spoil(); else if (r < 85) ask(); else close();
            }
        }

        void outOfTurn() {
            switch (some(7)) {
                case 0: begin(); break;
                case 1: commit(); break;
                case 2: complain(); break;
                case 3: if (model.phase != 1) beginOpening(); break;
                case 4: open(); break;
                case 5: if (model.phase != 2) close(); break;
                default: if (model.phase != 0) play(); break;
            }
        }

        void begin() { due("begin()", real.begin(), act(Model::begin)); }
        void beginOpening() { due("beginOpening()", real.beginOpening(), act(Model::beginOpening)); }
        void close() { due("close()", real.close(), act(Model::close)); }
        void play() { int s = chance(50) ? random.nextInt() : some(1000); due("play(" + s + ")", real.play(s), act(m -> m.play(s))); }

        void commit() {
            int p = person(), s = in(0, 1018), no = chance(50) ? random.nextInt() : some(5);
            int o = person();
            if (chance(8) && o >= 0 && o < 8) {
                // the digest of somebody, by another secret
                no = model.nonce[o] ^ Model.mix(Model.mix(17, model.ended.size()), model.secret[o]) ^ Model.mix(Model.mix(17, model.ended.size()), s);
            }
            int q = no;
            due("commit(" + p + ", " + s + ", " + q + ")", real.commit(p, s, q), act(m -> m.commit(p, s, q)));
        }

        void spoil() {
            int p = person(), j = person(), by = in(1, 1018);
            due("spoil(" + p + ", " + j + ", " + by + ")", real.spoil(p, j, by), act(m -> m.spoil(p, j, by)));
            if (chance(30)) {
                int back = 1019 - by;
                due("spoil(" + p + ", " + j + ", " + back + ")", real.spoil(p, j, back), act(m -> m.spoil(p, j, back)));
            }
        }

        void complain() {
            int j = person(), p = person();
            due("complain(" + j + ", " + p + ")", real.complain(j, p), act(m -> m.complain(j, p)));
        }

        void open() {
            int p = person();
            boolean honest = p >= 0 && p < 8 && chance(80);
            int s = honest ? model.secret[p] : chance(50) && p >= 0 && p < 8 ? model.secret[p] : random.nextInt();
            int no = honest ? model.nonce[p] : chance(50) && p >= 0 && p < 8 ? model.nonce[p] : random.nextInt();
            due("open(" + p + ", " + s + ", " + no + ")", real.open(p, s, no), act(m -> m.open(p, s, no)));
        }

        void undo() {
            int times = chance(20) ? 6 : 1;
            for (int i = 0; i < times; i++) {
                int want = -2;
                if (!states.isEmpty()) {
                    model = states.removeLast();
                    want = states.size();
                }
                due("undo()", real.undo(), want);
            }
        }

        int coalition() {
            if (chance(4)) return chance(50) ? -1 : 256;
            if (chance(8)) return some(256);
            int set = some(256);
            for (int p = 0; p < 8; p++) if (!model.member[p] || model.opened[p]) set &= ~(1 << p);
            return set;
        }

        void ask() {
            switch (some(24)) {
                case 0: due("phase()", real.phase(), model.phase); break;
                case 1: { int w = in(0, 3); due("set(" + w + ")", real.set(w), model.set(w)); break; }
                case 2: { int p = person(); due("digest(" + p + ")", real.digest(p), model.digest(p)); break; }
                case 3: { int p = person(), j = person(); due("share(" + p + ", " + j + ")", real.share(p, j), model.share(p, j)); break; }
                case 4: { int p = person(), j = person(); due("isRight(" + p + ", " + j + ")", real.isRight(p, j), model.isRight(p, j)); break; }
                case 5: { int p = person(), k = in(0, 8); due("check(" + p + ", " + k + ")", real.check(p, k), model.check(p, k)); break; }
                case 6: case 7: { int p = person(), s = in(0, 255); due("recover(" + p + ", " + s + ")", real.recover(p, s), model.recover(p, s)); break; }
                case 8: { int p = person(), w = in(0, 1); due("lock(" + p + ", " + w + ")", real.lock(p, w), model.lock(p, w)); break; }
                case 9: case 10: { int c = coalition(); due("results(" + c + ")", real.results(c), model.results(c)); break; }
                case 11: case 12: {
                    int c = coalition(), coin = in(0, 1);
                    due("canForce(" + c + ", " + coin + ")", real.canForce(c, coin), model.canForce(c, coin));
                    break;
                }
                case 13: case 14: {
                    int c = coalition();
                    int outside = Integer.bitCount(model.set(0) & ~c);
                    int bits = chance(75) && outside <= 6 && model.phase == 2 ? 1 + some(Math.max(1, Math.min(4, 6 / Math.max(1, outside)))) : in(1, 4);
                    if (bits >= 1 && bits <= 4 && bits * outside > 7 && bits * outside <= 12 && !chance(4)) break;
                    due("bias(" + c + ", " + bits + ")", real.bias(c, bits), model.bias(c, bits));
                    break;
                }
                case 15: { int b = in(2, 100000), d = in(0, 300); due("slow(" + b + ", " + d + ")", real.slow(b, d), Model.slow(b, d)); break; }
                case 16: { int b = in(2, 7906), d = in(0, 1000000000); due("quick(" + b + ", " + d + ")", real.quick(b, d), Model.quick(b, d)); break; }
                case 17: { int b = in(2, 100000), d = in(0, 300); due("prime(" + b + ", " + d + ")", real.prime(b, d), Model.prime(b, d)); break; }
                case 18: { int b = in(2, 100000), d = in(0, 300); due("proof(" + b + ", " + d + ")", real.proof(b, d), Model.proof(b, d)); break; }
                case 19: accepts(); break;
                case 20: { int p = person(), w = in(0, 4); due("account(" + p + ", " + w + ")", real.account(p, w), model.account(p, w)); break; }
                case 21: {
                    int r = chance(70) ? model.ended.size() - some(20) : in(0, 40), w = in(0, 4);
                    due("past(" + r + ", " + w + ")", real.past(r, w), model.past(r, w));
                    due("output(" + r + ")", real.output(r), model.output(r));
                    break;
                }
                case 22: { int c = in(0, 1); due("coins(" + c + ")", real.coins(c), model.coins(c)); break; }
                default:
                    due("longestRun()", real.longestRun(), model.longestRun());
                    due("pot()", real.pot(), model.pot);
                    due("rounds()", real.rounds(), model.ended.size());
                    break;
            }
        }

        void accepts() {
            int b = in(2, chance(50) ? 7906 : 100000), d = chance(70) ? some(200) : in(0, 1000000000);
            int y = chance(80) && Model.task(b, d) ? Model.slow(b, d) : in(0, 62615532);
            int w = chance(80) && Model.task(b, d) ? Model.proof(b, d) : in(0, 62615532);
            due("accepts(" + b + ", " + d + ", " + y + ", " + w + ")", real.accepts(b, d, y, w), Model.accepts(b, d, y, w));
        }
    }
}
