import java.lang.reflect.Member;
import java.lang.reflect.Method;
import java.lang.reflect.Modifier;
import java.math.BigInteger;
import java.util.Set;
import java.util.TreeSet;

/** For each promise: ordinary inputs, the edges that the document names, and wrong inputs. */
public final class PromiseTest extends Checks {
    public static void main(String[] args) {
        face(); p1(); p2(); p3(); p4to7(); p8(); p9(); p9Deal(); p9DealAgain(); p9Lock(); p10(); p11(); p12(); p13(); p14(); p14Shares();
        p15(); p15Cheating(); p15Copies(); p16(); p17(); p18(); p19(); p20(); p21(); p22(); p23();
        p24(); p25(); p26(); p27(); p28(); p29(); p30(); p31(); p32(); p33(); p34(); p35(); p36(); p37(); p38(); p39(); p39All(); p40();
        errorsChangeNothing();
        finish("promises");
    }

    static void face() {
        promise = "face";
        due("BAD", OwnerlessCoin.BAD, BAD);
        due("STATE", OwnerlessCoin.STATE, STATE);
        due("FULL", OwnerlessCoin.FULL, FULL);
        due("COPY", OwnerlessCoin.COPY, COPY);
        due("FAILED", OwnerlessCoin.FAILED, FAILED);
        due("NONE", OwnerlessCoin.NONE, NONE);
        Set<String> names = new TreeSet<>();
        for (Method m : OwnerlessCoin.class.getDeclaredMethods()) {
            if (!Modifier.isPrivate(m.getModifiers())) {
                names.add(m.toGenericString());
            }
        }
        due("public methods", names.size(), 39);
        for (Member m : OwnerlessCoin.class.getDeclaredFields()) {
            if (!Modifier.isPrivate(m.getModifiers())) {
                names.add(m.getName());
            }
        }
        due("public members", names.size(), 45);
        due("final", Modifier.isFinal(OwnerlessCoin.class.getModifiers()) ? 1 : 0, 1);
    }

    static void p1() {
        promise = "promise 1";
        OwnerlessCoin x = new OwnerlessCoin();
        due("account(0, 0)", x.account(0, 0), BAD);
        due("phase()", x.phase(), 0);
        due("pot()", x.pot(), 0);
        due("rounds()", x.rounds(), 0);
        due("undo()", x.undo(), STATE);
        due("method", x.setMethod(2), 0);
        due("threshold", x.setThreshold(8), 2);
        due("fine", x.setFine(0), 10);
        due("delay", x.setDelay(1), 100);
        due("another object's method", new OwnerlessCoin().setMethod(0), 0);
    }

    static void p2() {
        promise = "promise 2";
        OwnerlessCoin x = new OwnerlessCoin();
        due("addParticipant(-1)", x.addParticipant(-1), BAD);
        due("addParticipant(1000001)", x.addParticipant(1000001), BAD);
        due("addParticipant(MIN)", x.addParticipant(MIN), BAD);
        due("undo()", x.undo(), STATE);
        due("addParticipant(0)", x.addParticipant(0), 0);
        due("addParticipant(1000000)", x.addParticipant(1000000), 1);
        due("balance", x.account(1, 0), 1000000);
        due("behavior", x.account(1, 4), 0);
        for (int p = 2; p < 8; p++) {
            due("addParticipant(p)", x.addParticipant(p + 100), p);
        }
        due("addParticipant(5)", x.addParticipant(5), FULL);
        due("undo() of the last that had room", x.undo(), 3);
        due("account(7, 0)", x.account(7, 0), BAD);
        due("addParticipant(107)", x.addParticipant(107), 7);
        due("addParticipant(-5)", x.addParticipant(-5), BAD);
        x.begin();
        due("addParticipant(5) in a round", x.addParticipant(5), STATE);
        due("addParticipant(-5) in a round", x.addParticipant(-5), BAD);
        OwnerlessCoin y = opening(0, 2);
        due("addParticipant(5) in the opening", y.addParticipant(5), STATE);
        y.close();
        due("addParticipant(5) after it", y.addParticipant(5), 2);
        due("undo()", y.undo(), 3);
        due("account(2, 0)", y.account(2, 0), BAD);
        due("addParticipant(6) after undo", y.addParticipant(6), 2);
        due("account(2, 0)", y.account(2, 0), 6);
    }

    static void p3() {
        promise = "promise 3";
        OwnerlessCoin x = lab(0, 100, 100);
        for (int b : new int[] {3, 2, 1, 0, 3}) {
            int previous = x.account(1, 4);
            due("behave(1, b)", x.behave(1, b), previous);
            due("behavior", x.account(1, 4), b);
        }
        due("other's behavior", x.account(0, 4), 0);
        due("behave(2, 0)", x.behave(2, 0), BAD);
        due("behave(-1, 0)", x.behave(-1, 0), BAD);
        due("behave(8, 0)", x.behave(8, 0), BAD);
        due("behave(MAX, 0)", x.behave(MAX, 0), BAD);
        due("behave(0, 4)", x.behave(0, 4), BAD);
        due("behave(0, -1)", x.behave(0, -1), BAD);
        x.begin();
        due("behave(0, 2) in a round", x.behave(0, 2), 0);
        due("undo()", x.undo(), 3);
        due("behavior", x.account(0, 4), 0);
    }

    static void p4to7() {
        int[] low = {0, 1, 0, 1}, high = {2, 8, 1000, 5000}, initial = {0, 2, 10, 100};
        for (int which = 0; which < 4; which++) {
            promise = "promise " + (4 + which);
            OwnerlessCoin x = lab(0, 5000, 5000);
            due("below", set(x, which, low[which] - 1), BAD);
            due("above", set(x, which, high[which] + 1), BAD);
            due("MIN", set(x, which, MIN), BAD);
            due("MAX", set(x, which, MAX), BAD);
            due("least", set(x, which, low[which]), initial[which]);
            due("greatest", set(x, which, high[which]), low[which]);
            due("middle", set(x, which, low[which] + 1), high[which]);
            due("undo()", x.undo(), 3);
            due("same", set(x, which, high[which]), high[which]);
            due("is an act, too", x.undo(), 3);
            set(x, which, low[which]);
            due("begin()", x.begin(), 0);
            due("in a round", set(x, which, low[which]), STATE);
            due("below, in a round", set(x, which, low[which] - 1), BAD);
            x.commit(0, 1, 1);
            x.commit(1, 2, 2);
            x.beginOpening();
            due("in the opening", set(x, which, high[which]), STATE);
            x.open(0, 1, 1);
            x.open(1, 2, 2);
            x.close();
            due("after the round", set(x, which, high[which]), low[which]);
        }
    }

    static int set(OwnerlessCoin x, int which, int value) {
        switch (which) {
            case 0: return x.setMethod(value);
            case 1: return x.setThreshold(value);
            case 2: return x.setFine(value);
            default: return x.setDelay(value);
        }
    }

    static void p8() {
        promise = "promise 8";
        OwnerlessCoin x = lab(0, 10, 9);
        due("begin() with one that can pay", x.begin(), STATE);
        x.addParticipant(10);
        due("begin()", x.begin(), 0);
        due("members", x.set(0), 5);
        due("phase()", x.phase(), 1);
        due("begin() again", x.begin(), STATE);
        x.beginOpening();
        due("begin() after a failed round", x.begin(), 1);
        due("expelled", x.set(3), 0);
        due("begin() in the opening", opening(0, 2).begin(), STATE);
        OwnerlessCoin y = lab(1, 20, 20, 5);
        y.setThreshold(3);
        due("begin() with fewer than the threshold", y.begin(), STATE);
        y.setMethod(2);
        due("begin() with method 2", y.begin(), 0);
        y.undo();
        y.setMethod(1);
        y.setThreshold(2);
        due("begin() with the threshold", y.begin(), 0);
        due("members", y.set(0), 3);
        OwnerlessCoin w = lab(0, 9, 10, 10);
        due("begin() without the first", w.begin(), 0);
        due("members", w.set(0), 6);
        OwnerlessCoin z = lab(0, 0, 0);
        due("begin()", z.begin(), STATE);
        z.setFine(0);
        due("begin() with fine 0", z.begin(), 0);
        due("members", z.set(0), 3);
    }

    static void p9() {
        promise = "promise 9";
        OwnerlessCoin x = lab(0, 100, 100, 5, 100);
        due("commit before the round", x.commit(0, 5, 5), STATE);
        due("commit(9, 5, 5)", x.commit(9, 5, 5), BAD);
        x.begin();
        due("commit(-1, 5, 5)", x.commit(-1, 5, 5), BAD);
        due("commit(4, 5, 5)", x.commit(4, 5, 5), BAD);
        due("commit(0, -1, 5)", x.commit(0, -1, 5), BAD);
        due("commit(0, 1019, 5)", x.commit(0, 1019, 5), BAD);
        due("commit(2, 1019, 5)", x.commit(2, 1019, 5), BAD);
        due("commit by no member", x.commit(2, 5, 5), STATE);
        due("commit(0, 1018, MIN)", x.commit(0, 1018, MIN), digest(0, 1018, MIN) & 1073741823);
        due("commit again", x.commit(0, 5, 5), STATE);
        due("commit of a copy", x.commit(1, 1018, MIN), COPY);
        int d = digest(0, 1018, MIN);
        due("commit of a copy by another secret", x.commit(1, 3, nonceFor(0, 3, d)), COPY);
        due("commit of a digest with other high bits", x.commit(1, 3, nonceFor(0, 3, d ^ 1 << 30)), d & 1073741823);
        due("commit of a digest with other high bits", x.commit(3, 0, nonceFor(0, 0, d ^ 1 << 31)), d & 1073741823);
        x.beginOpening();
        due("commit in the opening", x.commit(0, 5, 5), STATE);
        due("open by the digest only", x.open(1, 1018, MIN), 0);
        x.close();
        x.begin();
        due("commit in round 1", x.commit(1, 1018, MIN), digest(1, 1018, MIN) & 1073741823);
        due("old digests count no more", x.commit(0, 3, nonceFor(1, 3, d)), d & 1073741823);
        // a digest of an expelled one is free
        OwnerlessCoin y = committing(1, 3);
        y.undo();
        y.spoil(0, 1, 1);
        due("copy of a member", y.commit(2, 1, 0), COPY);
        y.complain(1, 0);
        due("copy of an expelled one", y.commit(2, 1, 0), digest(0, 1, 0) & 1073741823);
        due("commit by an expelled one", y.commit(0, 7, 7), STATE);
    }

    static void p9Deal() {
        for (int threshold = 1; threshold <= 8; threshold++) {
            OwnerlessCoin x = lab(1, 50, 50, 50, 50, 50, 50, 50, 50);
            x.setThreshold(threshold);
            x.begin();
            for (int p = 0; p < 8; p++) {
                int secret = p == 7 ? 0 : 1018 - 37 * p, nonce = p == 3 ? MIN : 987654321 * p;
                x.commit(p, secret, nonce);
                int[] a = polynomial(secret, nonce, threshold);
                for (int j = 0; j < 8; j++) {
                    promise = "promise 19";
                    due("share", x.share(p, j), at(a, j + 1));
                    promise = "promise 20";
                    due("isRight", x.isRight(p, j), 1);
                }
                promise = "promise 21";
                for (int k = 0; k < threshold; k++) {
                    due("check", x.check(p, k), power(4, a[k], 2039));
                }
                due("check(p, threshold)", x.check(p, threshold), NONE);
                due("check(p, MAX)", x.check(p, MAX), NONE);
            }
        }
    }

    /** The shares of one round leave nothing behind for the next. */
    static void p9DealAgain() {
        promise = "promise 19";
        OwnerlessCoin x = committing(1, 3);
        x.spoil(1, 2, 77);
        x.beginOpening();
        x.close();
        x.setThreshold(3);
        x.begin();
        x.commit(1, 300, 44);
        int[] a = polynomial(300, 44, 3);
        for (int j = 0; j < 3; j++) {
            due("share", x.share(1, j), at(a, j + 1));
            due("isRight", x.isRight(1, j), 1);
        }
    }

    static void p9Lock() {
        promise = "promise 23";
        for (int delay : new int[] {1, 2, 77, 5000}) {
            OwnerlessCoin x = lab(2, 50, 50);
            x.setDelay(delay);
            x.begin();
            for (int p = 0; p < 2; p++) {
                int nonce = p == 0 ? -5 : 123456;
                x.commit(p, 1018 - p, nonce);
                int base = 2 + ((1103515245 * nonce + 12345) >>> 16) % 1000;
                due("base", x.lock(p, 0), base);
                due("lock number", x.lock(p, 1), (1018 - p + slowly(base, delay)) % Q);
            }
        }
    }

    static void p10() {
        promise = "promise 10";
        OwnerlessCoin x = committing(1, 3);
        int s = x.share(0, 1);
        due("spoil(3, 1, 1)", x.spoil(3, 1, 1), BAD);
        due("spoil(-1, 1, 1)", x.spoil(-1, 1, 1), BAD);
        due("spoil(0, 3, 1)", x.spoil(0, 3, 1), BAD);
        due("spoil(0, -1, 1)", x.spoil(0, -1, 1), BAD);
        due("spoil(0, 1, 0)", x.spoil(0, 1, 0), BAD);
        due("spoil(0, 1, 1019)", x.spoil(0, 1, 1019), BAD);
        due("spoil(0, 1, -1)", x.spoil(0, 1, -1), BAD);
        due("spoil(0, 1, 1018)", x.spoil(0, 1, 1018), (s + 1018) % Q);
        due("share", x.share(0, 1), (s + 1018) % Q);
        due("other share", x.isRight(0, 2), 1);
        due("spoil(0, 1, 1) back", x.spoil(0, 1, 1), s);
        due("isRight", x.isRight(0, 1), 1);
        due("spoil(2, 2, 4) of one's own", x.spoil(2, 2, 4), (at(polynomial(21, 2, 2), 3) + 4) % Q);
        due("isRight(2, 2)", x.isRight(2, 2), 0);
        due("undo()", x.undo(), 3);
        due("isRight(2, 2)", x.isRight(2, 2), 1);
        x.beginOpening();
        due("spoil in the opening", x.spoil(0, 1, 1), (s + 1) % Q);
        due("isRight", x.isRight(0, 1), 0);
        x.close();
        due("spoil after the round", x.spoil(0, 1, 1), NONE);
        due("spoil after the round", x.spoil(0, 1, 0), BAD);
        x.begin();
        due("spoil before the deal", x.spoil(0, 1, 1), NONE);
        due("spoil with method 0", committing(0, 2).spoil(0, 1, 1), NONE);
        due("spoil with method 2", committing(2, 2).spoil(0, 1, 1), NONE);
    }

    static void p11() {
        promise = "promise 11";
        OwnerlessCoin x = committing(1, 4);
        due("complain(4, 0)", x.complain(4, 0), BAD);
        due("complain(0, 4)", x.complain(0, 4), BAD);
        due("complain(-1, 0)", x.complain(-1, 0), BAD);
        due("complain(0, -1)", x.complain(0, -1), BAD);
        due("complain(1, 1)", x.complain(1, 1), BAD);
        due("complain(1, 0)", x.complain(1, 0), 0);
        due("balance of the complaining one", x.account(1, 0), 90);
        due("it is a member still", x.set(0), 15);
        due("pot()", x.pot(), 10);
        x.spoil(0, 1, 7);
        due("complain(2, 0)", x.complain(2, 0), 0);
        due("complain(1, 0)", x.complain(1, 0), 1);
        due("balance of the dealer", x.account(0, 0), 90);
        due("rounds in which it was expelled", x.account(0, 3), 1);
        due("pot()", x.pot(), 30);
        due("members", x.set(0), 14);
        due("committed", x.set(1), 14);
        due("expelled", x.set(3), 1);
        due("complain(1, 0) again", x.complain(1, 0), NONE);
        due("complain(0, 1) by the expelled", x.complain(0, 1), NONE);
        due("share(0, 1)", x.share(0, 1), NONE);
        due("share(1, 0)", x.share(1, 0), NONE);
        due("digest(0)", x.digest(0), NONE);
        due("undo()", x.undo(), 3);
        due("set(3)", x.set(3), 0);
        due("rounds in which it was expelled", x.account(0, 3), 0);
        x.beginOpening();
        due("complain in the opening", x.complain(1, 0), STATE);
        due("complain(1, 1) in the opening", x.complain(1, 1), BAD);
        due("complain with method 0", committing(0, 2).complain(0, 1), NONE);
        due("complain without a round", lab(1, 50, 50).complain(0, 1), STATE);
        // two are expelled in one round
        OwnerlessCoin z = committing(1, 4);
        z.spoil(0, 1, 1);
        z.spoil(3, 1, 1);
        due("complain(1, 0)", z.complain(1, 0), 1);
        due("complain(1, 3)", z.complain(1, 3), 1);
        due("expelled", z.set(3), 9);
        due("members", z.set(0), 6);
        // a fine is at most the balance; a member that has not committed has shares
        OwnerlessCoin y = lab(1, 15, 100, 100);
        y.begin();
        due("complain without a share", y.complain(0, 1), NONE);
        y.commit(1, 5, 5);
        due("complain", y.complain(0, 1), 0);
        due("balance", y.account(0, 0), 5);
        due("complain", y.complain(0, 1), 0);
        due("balance", y.account(0, 0), 0);
        due("pot()", y.pot(), 15);
        due("complain", y.complain(0, 1), 0);
        due("pot()", y.pot(), 15);
    }

    static void p12() {
        promise = "promise 12";
        OwnerlessCoin x = lab(0, 100, 100, 100);
        due("beginOpening() without a round", x.beginOpening(), STATE);
        x.begin();
        x.commit(0, 1, 0);
        x.commit(2, 21, 2);
        due("beginOpening()", x.beginOpening(), 2);
        due("phase()", x.phase(), 2);
        due("members", x.set(0), 5);
        due("who has not committed pays nothing", x.account(1, 0), 100);
        due("beginOpening() again", x.beginOpening(), STATE);
        x.undo();
        x.undo();
        due("beginOpening() with one", x.beginOpening(), FAILED);
        due("phase()", x.phase(), 0);
        due("rounds()", x.rounds(), 1);
        due("coin", x.past(0, 0), FAILED);
        due("members", x.past(0, 1), 1);
        due("opened", x.past(0, 2), 0);
        due("not opened", x.past(0, 3), 0);
        due("output", x.output(0), 0);
        due("balance", x.account(0, 0), 100);
        due("withheld", x.account(0, 2), 0);
        due("undo()", x.undo(), 2);
        due("phase()", x.phase(), 1);
        due("rounds()", x.rounds(), 0);
        OwnerlessCoin y = lab(0, 100, 100);
        y.begin();
        due("beginOpening() with none", y.beginOpening(), FAILED);
        due("members", y.past(0, 1), 0);
    }

    static void p13() {
        promise = "promise 13";
        OwnerlessCoin x = lab(0, 100, 100, 100);
        due("open without a round", x.open(0, 1, 0), STATE);
        x.begin();
        x.commit(0, 1, 0);
        x.commit(1, 11, 1);
        due("open in the committing", x.open(0, 1, 0), STATE);
        due("open(3, 1, 0)", x.open(3, 1, 0), BAD);
        x.beginOpening();
        due("open(-1, 1, 0)", x.open(-1, 1, 0), BAD);
        due("open(3, 1, 0)", x.open(3, 1, 0), BAD);
        due("open by no member", x.open(2, 0, 0), STATE);
        due("open with another secret", x.open(0, 2, 0), 0);
        due("open with another nonce", x.open(0, 1, 1), 0);
        due("open with MIN", x.open(0, MIN, 0), 0);
        due("open with secret + Q", x.open(0, 1 + Q, 0), 0);
        due("the same digest is not enough", x.open(0, 5, nonceFor(0, 5, digest(0, 1, 0))), 0);
        due("opened", x.set(2), 0);
        due("open", x.open(0, 1, 0), 1);
        due("opened", x.set(2), 1);
        due("open again", x.open(0, 1, 0), STATE);
        due("open again, wrongly", x.open(0, 2, 0), STATE);
        due("undo()", x.undo(), 3);
        due("opened", x.set(2), 0);
        due("a vain opening is an act", x.undo(), 2);
    }

    static void p14() {
        promise = "promise 14";
        due("close() without a round", lab(0).close(), STATE);
        due("close() in the committing", committing(0, 2).close(), STATE);
        for (int method = 0; method < 3; method++) {
            OwnerlessCoin x = opening(method, 4);
            opens(x, 0);
            opens(x, 1);
            opens(x, 3);
            int h = mix(mix(mix(mix(0, 1), 11), method == 0 ? 0 : 21), 31);
            due("close()", x.close(), h & 1);
            due("output", x.output(0), h);
            due("phase()", x.phase(), 0);
            due("balance of the withholding one", x.account(2, 0), 90);
            due("balance of an opened one", x.account(0, 0), 103);
            due("pot()", x.pot(), 1);
            due("withheld", x.account(2, 2), 1);
            due("opened", x.account(2, 1), 0);
            due("opened", x.account(3, 1), 1);
            due("withheld", x.account(3, 2), 0);
            due("not opened", x.past(0, 3), 1);
            x.begin();
            x.commit(2, 8, 8);
            x.commit(3, 9, 9);
            x.beginOpening();
            x.open(2, 8, 8);
            x.open(3, 9, 9);
            int second = mix(mix(h, 8), 9);
            due("close() of the second round", x.close(), second & 1);
            due("output", x.output(1), second);
            due("pot()", x.pot(), 1);
        }
        // nobody opens: nobody is paid
        OwnerlessCoin y = opening(0, 3);
        due("close() with none opened", y.close(), mix(mix(mix(0, 0), 0), 0) & 1);
        due("pot()", y.pot(), 30);
        OwnerlessCoin z = opening(2, 2);
        due("close() with none opened", z.close(), mix(mix(0, 1), 11) & 1);
        due("past(0, 2)", z.past(0, 2), 0);
        due("past(0, 3)", z.past(0, 3), 2);
        due("pot()", z.pot(), 20);
        due("close() with shares and none opened", opening(1, 3).close(), FAILED);
    }

    static void p14Shares() {
        promise = "promise 14";
        OwnerlessCoin x = opening(1, 4);
        opens(x, 1);
        due("close() with one share", x.close(), FAILED);
        due("fines are paid", x.pot(), 30);
        due("balance", x.account(0, 0), 90);
        due("balance of the opened one", x.account(1, 0), 100);
        due("opened", x.account(1, 1), 1);
        due("withheld", x.account(0, 2), 1);
        due("past(0, 0)", x.past(0, 0), FAILED);
        due("past(0, 1)", x.past(0, 1), 15);
        due("past(0, 2)", x.past(0, 2), 1);
        due("past(0, 3)", x.past(0, 3), 0);
        due("past(0, 4)", x.past(0, 4), 1);
        due("output(0)", x.output(0), 0);
        // a wrong share is not used, a right one by a greater number is
        OwnerlessCoin y = opening(1, 4);
        y.spoil(3, 0, 5);
        opens(y, 0);
        opens(y, 1);
        due("results", y.results(8), 1);
        due("results", y.results(12), 2);
        opens(y, 2);
        int h = mix(mix(mix(mix(0, 1), 11), 21), 31);
        due("close() with two right shares", y.close(), h & 1);
        due("output", y.output(0), h);
        due("undo()", y.undo(), 3);
        y.undo();
        due("close() with one right share", y.close(), FAILED);
        y.undo();
        y.spoil(3, 0, 1014);
        due("close() with the share right again", y.close(), h & 1);
        y.undo();
        opens(y, 2);
        due("close()", y.close(), h & 1);
        // all open: nothing has to be recovered
        OwnerlessCoin z = opening(1, 2);
        z.spoil(0, 1, 1);
        z.spoil(1, 0, 1);
        opens(z, 0);
        opens(z, 1);
        due("close() with all opened", z.close(), mix(mix(0, 1), 11) & 1);
        // the latest round that did not fail goes on
        OwnerlessCoin w = opening(0, 2);
        opens(w, 0);
        opens(w, 1);
        w.close();
        int first = w.output(0);
        w.begin();
        w.beginOpening();
        w.begin();
        w.commit(0, 4, 4);
        w.commit(1, 5, 5);
        w.beginOpening();
        w.open(0, 4, 4);
        due("close() after a failed round", w.close(), mix(mix(first, 4), 0) & 1);
        due("output(2)", w.output(2), mix(mix(first, 4), 0));
        // the part is rounded down, the rest stays in the pot
        OwnerlessCoin v = lab(0, 7, 100, 100, 100);
        v.setFine(7);
        v.begin();
        for (int p = 0; p < 4; p++) {
            v.commit(p, p, p);
        }
        v.beginOpening();
        v.open(1, 1, 1);
        v.open(2, 2, 2);
        v.open(3, 3, 3);
        v.close();
        due("balance", v.account(0, 0), 0);
        due("balance", v.account(3, 0), 102);
        due("pot()", v.pot(), 1);
    }

    static void p15() {
        promise = "promise 15";
        OwnerlessCoin x = lab(0, 100, 5, 100, 100, 100);
        due("behave", x.behave(3, 1), 0);
        x.behave(4, 3);
        int[] d = draws(77, 8);
        int h = 0;
        for (int i = 0; i < 4; i++) {
            h = mix(h, i == 2 ? 0 : d[2 * i] % Q);
        }
        due("play(77)", x.play(77), h & 1);
        due("output(0)", x.output(0), h);
        due("members", x.past(0, 1), 29);
        due("opened", x.past(0, 2), 3);
        due("no member pays nothing", x.account(1, 0), 5);
        due("silent one", x.account(3, 0), 90);
        due("cheating one opens", x.account(4, 0), 103);
        due("play is one act", x.undo(), 3);
        due("rounds()", x.rounds(), 0);
        due("phase()", x.phase(), 0);
        due("balance", x.account(3, 0), 100);
        x.begin();
        due("play in a round", x.play(1), STATE);
        due("play with one", lab(0, 10, 9).play(1), STATE);
        OwnerlessCoin few = lab(1, 10, 10);
        few.setThreshold(3);
        due("play with fewer than the threshold", few.play(1), STATE);
        selfish();
    }

    /** Two selfish ones beside one silent one: the choice of the first reckons with a silent second. */
    static void selfish() {
        for (int seed = -40; seed < 40; seed++) {
            OwnerlessCoin x = lab(0, 100, 100, 100, 100);
            x.behave(0, 2);
            x.behave(2, 2);
            x.behave(3, 1);
            int[] d = draws(seed, 8);
            int a = d[0] % Q, b = d[2] % Q, c = d[4] % Q;
            boolean first = !(coin(0, b, 0, 0) == 1 && coin(a, b, 0, 0) != 1);
            int mine = first ? a : 0;
            boolean second = !(coin(mine, b, 0, 0) == 1 && coin(mine, b, c, 0) != 1);
            due("play(" + seed + ")", x.play(seed), coin(mine, b, second ? c : 0, 0));
            due("opened of 0", x.account(0, 1), first ? 1 : 0);
            due("opened of 2", x.account(2, 1), second ? 1 : 0);
            due("withheld of 3", x.account(3, 2), 1);
        }
        // with shares a selfish one withholds only what changes the coin: never
        OwnerlessCoin y = lab(1, 100, 100, 100);
        y.behave(1, 2);
        for (int seed = 0; seed < 20; seed++) {
            y.play(seed);
        }
        due("withheld", y.account(1, 2), 0);
        due("opened", y.account(1, 1), 20);
    }

    static void p15Cheating() {
        promise = "promise 15";
        // 1 cheats 3 (2 is no member), 3 cheats 0; 0 has 3 expelled, which so complains no more
        OwnerlessCoin x = lab(1, 100, 100, 3, 100);
        x.behave(1, 3);
        x.behave(3, 3);
        int[] d = draws(5, 6);
        int h = mix(mix(0, d[0] % Q), d[2] % Q);
        due("play(5)", x.play(5), h & 1);
        due("output(0)", x.output(0), h);
        due("expelled 3", x.account(3, 3), 1);
        due("expelled 1", x.account(1, 3), 0);
        due("balance of 3", x.account(3, 0), 90);
        due("balance of 1", x.account(1, 0), 105);
        due("members", x.past(0, 1), 3);
        // of two, the cheating one is expelled, and the other is left alone
        OwnerlessCoin y = lab(1, 100, 100);
        y.behave(1, 3);
        due("play(5)", y.play(5), FAILED);
        due("expelled", y.account(1, 3), 1);
        due("members", y.past(0, 1), 1);
        due("pot()", y.pot(), 10);
        due("rounds()", y.rounds(), 1);
        due("undo()", y.undo(), 3);
        due("pot()", y.pot(), 0);
        // 2 cheats 3 and 3 cheats 0: 0 has 3 expelled, before 3 complains about 2
        OwnerlessCoin v = lab(1, 100, 100, 100, 100);
        v.behave(2, 3);
        v.behave(3, 3);
        v.play(5);
        due("expelled 3", v.account(3, 3), 1);
        due("expelled 2", v.account(2, 3), 0);
        due("members", v.past(0, 1), 7);
        // cheating is for shares only
        OwnerlessCoin z = lab(2, 100, 100);
        z.behave(1, 3);
        due("play(5) with method 2", z.play(5), coin(d[0] % Q, d[2] % Q));
        due("expelled", z.account(1, 3), 0);
        // all silent
        OwnerlessCoin w = lab(1, 100, 100);
        w.behave(0, 1);
        w.behave(1, 1);
        due("play(5)", w.play(5), FAILED);
        due("withheld", w.account(0, 2), 1);
        due("pot()", w.pot(), 20);
    }

    static void p15Copies() {
        promise = "promise 15";
        // with this seed the first two members of round 0 draw numbers with one digest
        int seed = -1867605333;
        int[] d = draws(seed, 6);
        due("digests", digest(0, d[0] % Q, d[1]), digest(0, d[2] % Q, d[3]));
        OwnerlessCoin x = lab(0, 100, 100);
        due("play with a copy of two", x.play(seed), FAILED);
        due("members", x.past(0, 1), 1);
        OwnerlessCoin y = lab(0, 100, 100, 100);
        due("play with a copy of three", y.play(seed), coin(d[0] % Q, d[4] % Q));
        due("members", y.past(0, 1), 5);
        due("balance of the copying one", y.account(1, 0), 100);
        // it deals no shares, but has some: the one before it can cheat it, and it complains
        OwnerlessCoin z = lab(1, 100, 100, 100, 100);
        z.behave(0, 3);
        z.behave(1, 3);
        z.play(seed);
        due("expelled 0", z.account(0, 3), 1);
        due("expelled 1", z.account(1, 3), 0);
        due("members", z.past(0, 1), 12);
    }

    static void p16() {
        promise = "promise 16";
        OwnerlessCoin x = lab(0, 100, 100);
        due("phase()", x.phase(), 0);
        x.begin();
        due("phase()", x.phase(), 1);
        x.commit(0, 1, 0);
        x.commit(1, 11, 1);
        x.beginOpening();
        due("phase()", x.phase(), 2);
        x.close();
        due("phase()", x.phase(), 0);
        x.undo();
        due("phase()", x.phase(), 2);
    }

    static void p17() {
        promise = "promise 17";
        OwnerlessCoin x = lab(1, 100, 100, 100, 5, 100);
        due("set(0)", x.set(0), STATE);
        due("set(4)", x.set(4), BAD);
        due("set(-1)", x.set(-1), BAD);
        x.begin();
        x.commit(0, 1, 0);
        x.commit(2, 21, 2);
        x.commit(4, 41, 4);
        due("set(0)", x.set(0), 23);
        due("set(1)", x.set(1), 21);
        due("set(2)", x.set(2), 0);
        due("set(3)", x.set(3), 0);
        x.spoil(4, 0, 1);
        x.complain(0, 4);
        due("set(0)", x.set(0), 7);
        due("set(1)", x.set(1), 5);
        due("set(3)", x.set(3), 16);
        x.beginOpening();
        opens(x, 2);
        due("set(0)", x.set(0), 5);
        due("set(1)", x.set(1), 5);
        due("set(2)", x.set(2), 4);
        due("set(3)", x.set(3), 16);
        due("set(MIN)", x.set(MIN), BAD);
        x.close();
        due("set(3)", x.set(3), STATE);
        due("set(4)", x.set(4), BAD);
        x.begin();
        due("set(1) anew", x.set(1), 0);
        due("set(2) anew", x.set(2), 0);
        due("set(3) anew", x.set(3), 0);
    }

    static void p18() {
        promise = "promise 18";
        OwnerlessCoin x = lab(0, 100, 100, 100);
        due("digest(0)", x.digest(0), NONE);
        due("digest(3)", x.digest(3), BAD);
        due("digest(-1)", x.digest(-1), BAD);
        x.begin();
        due("digest(0)", x.digest(0), NONE);
        x.commit(0, 1018, -1);
        x.commit(1, 0, 0);
        due("digest(0)", x.digest(0), digest(0, 1018, -1) & 1073741823);
        due("digest(1)", x.digest(1), digest(0, 0, 0) & 1073741823);
        due("digest(2)", x.digest(2), NONE);
        x.beginOpening();
        due("digest(0)", x.digest(0), digest(0, 1018, -1) & 1073741823);
        due("digest(2)", x.digest(2), NONE);
        x.close();
        due("digest(0)", x.digest(0), NONE);
        x.begin();
        due("digest(0)", x.digest(0), NONE);
    }

    static void p19() {
        promise = "promise 19";
        OwnerlessCoin x = lab(1, 100, 100, 5, 100);
        due("share(0, 1)", x.share(0, 1), NONE);
        x.begin();
        due("share(0, 1)", x.share(0, 1), NONE);
        x.commit(0, 1018, 9);
        due("share(0, 0)", x.share(0, 0), at(polynomial(1018, 9, 2), 1));
        due("share(0, 3)", x.share(0, 3), at(polynomial(1018, 9, 2), 4));
        due("share(1, 0)", x.share(1, 0), NONE);
        due("share(0, 2)", x.share(0, 2), NONE);
        due("share(2, 0)", x.share(2, 0), NONE);
        due("share(0, 4)", x.share(0, 4), BAD);
        due("share(4, 0)", x.share(4, 0), BAD);
        due("share(-1, 0)", x.share(-1, 0), BAD);
        due("share(0, -1)", x.share(0, -1), BAD);
        x.commit(1, 5, 5);
        x.beginOpening();
        due("share(0, 1)", x.share(0, 1), at(polynomial(1018, 9, 2), 2));
        due("share(0, 3)", x.share(0, 3), NONE);
        x.close();
        due("share(0, 1)", x.share(0, 1), NONE);
        due("with method 0", committing(0, 2).share(0, 1), NONE);
        due("with method 2", committing(2, 2).share(0, 1), NONE);
    }

    static void p20() {
        promise = "promise 20";
        OwnerlessCoin x = committing(1, 3);
        due("isRight(0, 3)", x.isRight(0, 3), BAD);
        due("isRight(3, 0)", x.isRight(3, 0), BAD);
        due("isRight(-1, 0)", x.isRight(-1, 0), BAD);
        due("isRight(0, -1)", x.isRight(0, -1), BAD);
        for (int by : new int[] {1, 2, 509, 510, 1018}) {
            x.spoil(0, 2, by);
            due("isRight(0, 2)", x.isRight(0, 2), 0);
            due("isRight(2, 0)", x.isRight(2, 0), 1);
            x.spoil(0, 2, Q - by);
            due("isRight(0, 2)", x.isRight(0, 2), 1);
        }
        OwnerlessCoin y = lab(1, 50, 50, 50);
        y.begin();
        due("isRight(0, 1)", y.isRight(0, 1), NONE);
        y.commit(0, 1, 1);
        due("isRight(0, 1)", y.isRight(0, 1), 1);
        due("isRight(1, 0)", y.isRight(1, 0), NONE);
        due("with method 0", committing(0, 2).isRight(0, 1), NONE);
        due("without a round", lab(1, 5, 5).isRight(0, 1), NONE);
        for (int threshold = 1; threshold <= 8; threshold++) {
            OwnerlessCoin z = lab(1, 50, 50, 50, 50, 50, 50, 50, 50);
            z.setThreshold(threshold);
            z.begin();
            z.commit(7, 1000, 31);
            for (int j = 0; j < 8; j++) {
                z.spoil(7, j, 500);
                due("isRight(7, j)", z.isRight(7, j), 0);
                z.spoil(7, j, 519);
                due("isRight(7, j)", z.isRight(7, j), 1);
            }
        }
    }

    static void p21() {
        promise = "promise 21";
        OwnerlessCoin x = committing(1, 2);
        due("check(0, 0)", x.check(0, 0), 4);
        due("check(2, 0)", x.check(2, 0), BAD);
        due("check(-1, 0)", x.check(-1, 0), BAD);
        due("check(0, -1)", x.check(0, -1), BAD);
        due("check(0, MIN)", x.check(0, MIN), BAD);
        due("check(0, 2)", x.check(0, 2), NONE);
        due("check(0, 8)", x.check(0, 8), NONE);
        x.spoil(0, 1, 5);
        due("check(0, 0)", x.check(0, 0), 4);
        x.complain(1, 0);
        due("check(0, 0) of an expelled one", x.check(0, 0), NONE);
        due("with method 0", committing(0, 2).check(0, 0), NONE);
        due("with method 2", committing(2, 2).check(0, 0), NONE);
        due("without a round", lab(1, 50).check(0, 0), NONE);
        due("without a round", lab(1, 50).check(0, -1), BAD);
        OwnerlessCoin y = lab(1, 50, 50);
        y.begin();
        y.commit(0, 0, 0);
        due("check(1, 0)", y.check(1, 0), NONE);
        due("check(0, 0)", y.check(0, 0), 1);
    }

    static void p22() {
        promise = "promise 22";
        OwnerlessCoin x = lab(1, 100, 100, 100, 5, 100);
        x.setThreshold(3);
        due("recover(0, 7) without a round", x.recover(0, 7), NONE);
        x.begin();
        due("recover(0, 7) without a deal", x.recover(0, 7), NONE);
        x.commit(0, 777, 55);
        due("recover(5, 7)", x.recover(5, 7), BAD);
        due("recover(-1, 7)", x.recover(-1, 7), BAD);
        due("recover(0, -1)", x.recover(0, -1), BAD);
        due("recover(0, 256)", x.recover(0, 256), BAD);
        for (int set = 0; set < 256; set++) {
            due("recover(0, " + set + ")", x.recover(0, set), Integer.bitCount(set & 23) < 3 ? NONE : 777);
        }
        due("recover(1, 255)", x.recover(1, 255), NONE);
        // through (1, s), (2, s'), (5, s''), the value at 0 is (10s * 3 - 5s' * 4 + 2s'') / 12 .. as fractions modulo Q
        x.spoil(0, 1, 400);
        int s0 = x.share(0, 0), s1 = x.share(0, 1), s4 = x.share(0, 4);
        BigInteger q = BigInteger.valueOf(Q);
        // weights 2*5/((2-1)(5-1)), 1*5/((1-2)(5-2)), 1*2/((1-5)(2-5))
        BigInteger value = part(s0, 10, 4).add(part(s1, 5, -3)).add(part(s4, 2, 12)).mod(q);
        due("recover(0, 19)", x.recover(0, 19), value.intValue());
        due("recover(0, 23) takes the smallest", x.recover(0, 23), x.recover(0, 7));
        due("recover(0, 21) without the wrong one", x.recover(0, 21), 777);
        x.spoil(0, 4, 3);
        due("recover(0, 23) does without the greatest", x.recover(0, 23), x.recover(0, 7));
        OwnerlessCoin y = lab(1, 50, 50);
        y.setThreshold(1);
        y.begin();
        y.commit(1, 600, 1);
        due("recover(1, 0)", y.recover(1, 0), NONE);
        due("recover(1, 1)", y.recover(1, 1), 600);
        y.spoil(1, 0, 1000);
        due("recover(1, 1)", y.recover(1, 1), 581);
        due("recover(1, 3)", y.recover(1, 3), 581);
        due("recover(1, 2)", y.recover(1, 2), 600);
        OwnerlessCoin z = lab(1, 50, 50, 50, 50, 50, 50, 50, 50);
        z.setThreshold(8);
        z.begin();
        z.commit(3, 1018, -9);
        due("recover(3, 255)", z.recover(3, 255), 1018);
        due("recover(3, 254)", z.recover(3, 254), NONE);
        due("with method 0", committing(0, 2).recover(0, 3), NONE);
        due("with method 2", committing(2, 2).recover(0, 3), NONE);
    }

    static BigInteger part(int share, int above, int below) {
        BigInteger q = BigInteger.valueOf(Q);
        return BigInteger.valueOf(share).multiply(BigInteger.valueOf(above)).multiply(BigInteger.valueOf(below).modInverse(q));
    }

    static void p23() {
        promise = "promise 23";
        OwnerlessCoin x = lab(2, 50, 50, 5);
        due("lock(0, 0)", x.lock(0, 0), NONE);
        due("lock(3, 0)", x.lock(3, 0), BAD);
        due("lock(-1, 0)", x.lock(-1, 0), BAD);
        due("lock(0, 2)", x.lock(0, 2), BAD);
        due("lock(0, -1)", x.lock(0, -1), BAD);
        x.begin();
        due("lock(0, 0)", x.lock(0, 0), NONE);
        x.commit(0, 0, 0);
        due("lock(0, 0)", x.lock(0, 0), 2);
        due("lock(0, 1)", x.lock(0, 1), slowly(2, 100) % Q);
        due("lock(1, 0)", x.lock(1, 0), NONE);
        due("lock(2, 0)", x.lock(2, 0), NONE);
        due("with method 0", committing(0, 2).lock(0, 0), NONE);
        due("with method 1", committing(1, 2).lock(0, 0), NONE);
        OwnerlessCoin y = opening(2, 2);
        due("lock(1, 0) in the opening", y.lock(1, 0), 2 + ((1103515245 + 12345) >>> 16) % 1000);
        y.close();
        due("lock(1, 0) after the round", y.lock(1, 0), NONE);
        y.begin();
        due("lock(1, 0) in the next round", y.lock(1, 0), NONE);
    }

    static void p24() {
        promise = "promise 24";
        OwnerlessCoin x = opening(0, 4);
        due("results(0)", x.results(0), 1);
        due("results(15)", x.results(15), distinct(new int[] {1, 11, 21, 31}, 15));
        due("results(6)", x.results(6), distinct(new int[] {1, 11, 21, 31}, 6));
        due("results(-1)", x.results(-1), BAD);
        due("results(256)", x.results(256), BAD);
        due("results(16)", x.results(16), STATE);
        due("results(255)", x.results(255), STATE);
        opens(x, 1);
        due("results(2) of an opened one", x.results(2), STATE);
        due("results(13)", x.results(13), distinct(new int[] {1, 11, 21, 31}, 13));
        due("nothing is opened by asking", x.set(2), 2);
        x.close();
        due("results(0) without a round", x.results(0), STATE);
        due("results(256) without a round", x.results(256), BAD);
        due("results(0) in the committing", committing(0, 2).results(0), STATE);
        // a secret 0 makes no difference: opened or not
        OwnerlessCoin y = lab(0, 50, 50);
        y.begin();
        y.commit(0, 0, 1);
        y.commit(1, 7, 1);
        y.beginOpening();
        due("results(1)", y.results(1), 1);
        due("results(3)", y.results(3), 2);
        // with shares there is one output, and one failure
        OwnerlessCoin z = opening(1, 4);
        due("results(3)", z.results(3), 1);
        due("results(7)", z.results(7), 2);
        due("results(15)", z.results(15), 2);
        z.spoil(0, 2, 1);
        z.spoil(0, 3, 1);
        due("results(1)", z.results(1), 2);
        due("results(15)", z.results(15), 2);
        due("results(0), which cannot fail", z.results(0), 1);
        OwnerlessCoin w = opening(2, 4);
        due("results(15)", w.results(15), 1);
        OwnerlessCoin eight = opening(0, 8);
        due("results(255)", eight.results(255), distinct(new int[] {1, 11, 21, 31, 41, 51, 61, 71}, 255));
        due("results(128)", eight.results(128), 2);
    }

    static int distinct(int[] secrets, int coalition) {
        Set<Integer> outputs = new TreeSet<>();
        for (int choice = 0; choice < 1 << secrets.length; choice++) {
            int h = 0;
            for (int p = 0; p < secrets.length; p++) {
                boolean withheld = (coalition & 1 << p) != 0 && (choice & 1 << p) == 0;
                h = mix(h, withheld ? 0 : secrets[p]);
            }
            outputs.add(h);
        }
        return outputs.size();
    }

    static void p25() {
        promise = "promise 25";
        OwnerlessCoin x = opening(0, 3);
        int all = coin(1, 11, 21), without = coin(1, 11, 0);
        for (int c = 0; c < 2; c++) {
            due("canForce(0, c)", x.canForce(0, c), all == c ? 1 : 0);
            due("canForce(4, c)", x.canForce(4, c), all == c || without == c ? 1 : 0);
        }
        due("canForce(-1, 0)", x.canForce(-1, 0), BAD);
        due("canForce(256, 0)", x.canForce(256, 0), BAD);
        due("canForce(0, 2)", x.canForce(0, 2), BAD);
        due("canForce(0, -1)", x.canForce(0, -1), BAD);
        due("canForce(8, 0)", x.canForce(8, 0), STATE);
        due("canForce(8, 2)", x.canForce(8, 2), BAD);
        opens(x, 0);
        due("canForce(1, 0)", x.canForce(1, 0), STATE);
        due("canForce(255, 0)", x.canForce(255, 0), STATE);
        due("canForce(255, 0) of eight", opening(2, 8).canForce(255, 0), 1 - coin(1, 11, 21, 31, 41, 51, 61, 71));
        due("canForce(0, 0) in the committing", committing(0, 2).canForce(0, 0), STATE);
        // a failure has no coin
        OwnerlessCoin y = opening(1, 3);
        int coin = coin(1, 11, 21);
        due("canForce(7, coin)", y.canForce(7, coin), 1);
        due("canForce(7, other)", y.canForce(7, 1 - coin), 0);
        y.spoil(2, 0, 1);
        due("canForce(4, other)", y.canForce(4, 1 - coin), 0);
        due("canForce(4, coin)", y.canForce(4, coin), 1);
        // the output of the round before counts
        OwnerlessCoin z = lab(0, 50, 50);
        z.play(3);
        z.begin();
        z.commit(0, 4, 4);
        z.commit(1, 5, 5);
        z.beginOpening();
        due("canForce(0, 1)", z.canForce(0, 1), mix(mix(z.output(0), 4), 5) & 1);
    }

    static void p26() {
        promise = "promise 26";
        OwnerlessCoin x = opening(0, 4);
        for (int coalition = 0; coalition < 16; coalition++) {
            for (int bits = 1; bits <= 4; bits++) {
                int others = 4 - Integer.bitCount(coalition);
                due("bias(" + coalition + ", " + bits + ")", x.bias(coalition, bits),
                        bits * others > 12 ? FULL : forced(new int[] {1, 11, 21, 31}, coalition, bits));
            }
        }
        due("bias(-1, 1)", x.bias(-1, 1), BAD);
        due("bias(256, 1)", x.bias(256, 1), BAD);
        due("bias(0, 0)", x.bias(0, 0), BAD);
        due("bias(0, 5)", x.bias(0, 5), BAD);
        due("bias(16, 4)", x.bias(16, 4), STATE);
        due("bias(16, 5)", x.bias(16, 5), BAD);
        opens(x, 1);
        due("bias(2, 4)", x.bias(2, 4), STATE);
        due("bias(0, 4)", x.bias(0, 4), FULL);
        due("bias(1, 4), the opened one's secret could be any", x.bias(1, 4), forced(new int[] {1, 11, 21, 31}, 1, 4));
        due("secrets are as before", opens(x, 0), 1);
        due("bias(0, 1) in the committing", committing(0, 2).bias(0, 1), STATE);
        // with shares: no coin if too few shares are right
        OwnerlessCoin y = opening(1, 3);
        due("bias(6, 2)", y.bias(6, 2), full(2, new int[] {-1, 11, 21}));
        due("bias(4, 2)", y.bias(4, 2), full(2, new int[] {-1, -1, 21}));
        y.spoil(2, 0, 1);
        due("bias(4, 2)", y.bias(4, 2), full(2, new int[] {-1, -1, 21}));
        OwnerlessCoin z = opening(2, 3);
        due("bias(5, 3)", z.bias(5, 3), full(3, new int[] {1, -1, 21}));
        OwnerlessCoin eight = opening(0, 8);
        due("bias(0, 1)", eight.bias(0, 1), forced(new int[8], 0, 1));
        due("bias(0, 2)", eight.bias(0, 2), FULL);
        due("bias(192, 2)", eight.bias(192, 2), forced(new int[] {0, 0, 0, 0, 0, 0, 61, 71}, 192, 2));
        due("bias(255, 4)", eight.bias(255, 4), 1);
        due("bias(248, 4)", eight.bias(248, 4), forced(new int[] {0, 0, 0, 31, 41, 51, 61, 71}, 248, 4));
    }

    static int forced(int[] secrets, int coalition, int bits) {
        int n = secrets.length, others = n - Integer.bitCount(coalition), count = 0;
        for (int combination = 0; combination < 1 << bits * others; combination++) {
            boolean can = false;
            for (int choice = 0; choice < 1 << n && !can; choice++) {
                if ((choice & ~coalition) != 0) {
                    continue;
                }
                int h = 0, rest = combination;
                for (int p = 0; p < n; p++) {
                    if ((coalition & 1 << p) == 0) {
                        h = mix(h, rest % (1 << bits));
                        rest /= 1 << bits;
                    } else {
                        h = mix(h, (choice & 1 << p) == 0 ? 0 : secrets[p]);
                    }
                }
                can = (h & 1) == 1;
            }
            count += can ? 1 : 0;
        }
        return count;
    }

    /** How many combinations of the free secrets (-1) give coin 1 if all secrets count. */
    static int full(int bits, int[] secrets) {
        for (int p = 0; p < secrets.length; p++) {
            if (secrets[p] < 0) {
                int sum = 0;
                for (int s = 0; s < 1 << bits; s++) {
                    int[] row = secrets.clone();
                    row[p] = s;
                    sum += full(bits, row);
                }
                return sum;
            }
        }
        return coin(secrets);
    }

    static void tasks(String name, Asked asked) {
        due(name + "(1, 5)", asked.of(1, 5), BAD);
        due(name + "(100001, 5)", asked.of(100001, 5), BAD);
        due(name + "(2, -1)", asked.of(2, -1), BAD);
        due(name + "(2, 5001)", asked.of(2, 5001), BAD);
        due(name + "(MIN, 5)", asked.of(MIN, 5), BAD);
        due(name + "(2, MAX)", asked.of(2, MAX), BAD);
    }

    interface Asked {
        int of(int b, int d);
    }

    static final int[] BASES = {2, 3, 7906, 7907, 7919, 15814, 99999, 100000};
    static final int[] DELAYS = {0, 1, 2, 3, 10, 77, 1000, 5000};

    static void p27() {
        promise = "promise 27";
        OwnerlessCoin x = new OwnerlessCoin();
        for (int b : BASES) {
            for (int d : DELAYS) {
                due("slow(" + b + ", " + d + ")", x.slow(b, d), slowly(b, d));
            }
        }
        tasks("slow", x::slow);
        due("slow is no act", x.undo(), STATE);
    }

    static void p28() {
        promise = "promise 28";
        OwnerlessCoin x = new OwnerlessCoin();
        for (int b : new int[] {2, 3, 100, 7905, 7906}) {
            for (int d : DELAYS) {
                due("quick(" + b + ", " + d + ")", x.quick(b, d), slowly(b, d));
            }
            for (int d : new int[] {5001, 123456789, 999999999, 1000000000}) {
                BigInteger e = BigInteger.TWO.modPow(BigInteger.valueOf(d), BigInteger.valueOf(7906L * 7918));
                BigInteger due = BigInteger.valueOf(b).modPow(e, BigInteger.valueOf(N));
                due("quick(" + b + ", " + d + ")", x.quick(b, d), due.intValue());
            }
        }
        due("quick(1, 1)", x.quick(1, 1), BAD);
        due("quick(7907, 1)", x.quick(7907, 1), BAD);
        due("quick(2, -1)", x.quick(2, -1), BAD);
        due("quick(2, 1000000001)", x.quick(2, 1000000001), BAD);
    }

    static void p29() {
        promise = "promise 29";
        OwnerlessCoin x = new OwnerlessCoin();
        for (int b : BASES) {
            for (int d : DELAYS) {
                due("prime(" + b + ", " + d + ")", x.prime(b, d), primeFor(b, slowly(b, d)));
            }
        }
        boolean least = false;
        for (int b = 2; b < 3000; b++) {
            // an object is used for at most 512 calls
            x = b % 500 == 2 ? new OwnerlessCoin() : x;
            int l = x.prime(b, 0);
            due("prime(" + b + ", 0)", l, primeFor(b, b));
            least |= l == 257;
        }
        due("257 is among them", least ? 1 : 0, 1);
        tasks("prime", x::prime);
    }

    static void p30() {
        promise = "promise 30";
        OwnerlessCoin x = new OwnerlessCoin();
        for (int b : BASES) {
            for (int d : DELAYS) {
                due("proof(" + b + ", " + d + ")", x.proof(b, d), proofFor(b, d));
            }
            for (int d = 8; d < 13; d++) {
                due("proof(" + b + ", " + d + ")", x.proof(b, d), proofFor(b, d));
            }
        }
        tasks("proof", x::proof);
    }

    static void p31() {
        promise = "promise 31";
        OwnerlessCoin x = new OwnerlessCoin();
        for (int b : BASES) {
            for (int d : DELAYS) {
                int y = slowly(b, d), w = proofFor(b, d);
                due("accepts of the proof", x.accepts(b, d, y, w), 1);
                if (b % 7907 != 0 && b % 7919 != 0) {
                    due("accepts of another proof", x.accepts(b, d, y, (w + 1) % N), 0);
                    due("accepts of another value", x.accepts(b, d, (y + 1) % N, w), 0);
                }
            }
        }
        // a value for a great delay is proven by one who knows the factors
        int d = 1000000000, b = 7906, y = x.quick(b, d), l = primeFor(b, y);
        BigInteger phi = BigInteger.valueOf(7906L * 7918), bl = BigInteger.valueOf(l);
        BigInteger rest = BigInteger.TWO.modPow(BigInteger.valueOf(d), bl);
        // floor(2^d / l) modulo phi, from 2^d modulo l * phi
        BigInteger exponent = BigInteger.TWO.modPow(BigInteger.valueOf(d), bl.multiply(phi)).subtract(rest).divide(bl);
        int w = BigInteger.valueOf(b).modPow(exponent, BigInteger.valueOf(N)).intValue();
        due("accepts for a great delay", x.accepts(b, d, y, w), 1);
        due("accepts for a great delay", x.accepts(b, d - 1, y, w), 0);
        due("accepts(2, 0, 0, 0)", x.accepts(2, 0, 0, 0), 1);
        due("accepts(1, 0, 1, 1)", x.accepts(1, 0, 1, 1), BAD);
        due("accepts(100001, 0, 1, 1)", x.accepts(100001, 0, 1, 1), BAD);
        due("accepts(2, -1, 1, 1)", x.accepts(2, -1, 1, 1), BAD);
        due("accepts(2, 1000000001, 1, 1)", x.accepts(2, 1000000001, 1, 1), BAD);
        due("accepts(2, 0, -1, 1)", x.accepts(2, 0, -1, 1), BAD);
        due("accepts(2, 0, N, 1)", x.accepts(2, 0, N, 1), BAD);
        due("accepts(2, 0, 2, -1)", x.accepts(2, 0, 2, -1), BAD);
        due("accepts(2, 0, 2, N)", x.accepts(2, 0, 2, N), BAD);
        due("accepts(2, 0, N - 1, N - 1)", x.accepts(2, 0, N - 1, N - 1), 0);
    }

    static void p32() {
        promise = "promise 32";
        OwnerlessCoin x = lab(0, 100, 200);
        x.behave(1, 1);
        x.play(1);
        x.play(2);
        due("account(0, 0)", x.account(0, 0), 120);
        due("account(0, 1)", x.account(0, 1), 2);
        due("account(0, 2)", x.account(0, 2), 0);
        due("account(1, 0)", x.account(1, 0), 180);
        due("account(1, 1)", x.account(1, 1), 0);
        due("account(1, 2)", x.account(1, 2), 2);
        due("account(1, 3)", x.account(1, 3), 0);
        due("account(1, 4)", x.account(1, 4), 1);
        due("account(2, 0)", x.account(2, 0), BAD);
        due("account(-1, 0)", x.account(-1, 0), BAD);
        due("account(0, 5)", x.account(0, 5), BAD);
        due("account(0, -1)", x.account(0, -1), BAD);
        OwnerlessCoin y = opening(0, 2);
        opens(y, 0);
        due("counted when it is closed", y.account(0, 1), 0);
        y.close();
        due("counted when it is closed", y.account(0, 1), 1);
    }

    static void p33() {
        promise = "promise 33";
        OwnerlessCoin x = lab(0, 100, 25);
        x.setFine(20);
        x.behave(0, 1);
        x.behave(1, 1);
        due("pot()", x.pot(), 0);
        x.play(1);
        due("pot()", x.pot(), 40);
        x.setFine(0);
        x.behave(0, 0);
        x.play(1);
        due("pot()", x.pot(), 0);
        due("balance", x.account(0, 0), 120);
    }

    static void p34() {
        promise = "promise 34";
        OwnerlessCoin x = lab(0, 100, 100);
        x.begin();
        due("rounds()", x.rounds(), 0);
        x.beginOpening();
        due("rounds()", x.rounds(), 1);
        x.play(1);
        due("rounds()", x.rounds(), 2);
        x.undo();
        due("rounds()", x.rounds(), 1);
    }

    static int playSomehow(OwnerlessCoin x, int r) {
        x.setMethod(r % 3);
        x.behave(2, r % 2);
        return x.play(r);
    }

    static void pastIs(OwnerlessCoin x, int latest, int past, int coin, int output) {
        boolean kept = past > latest - 16;
        promise = "promise 36";
        due("output(" + past + ")", x.output(past), kept ? output : 0);
        promise = "promise 35";
        due("past(" + past + ", 0)", x.past(past, 0), kept ? coin : NONE);
        due("past(" + past + ", 1)", x.past(past, 1), kept ? 7 : NONE);
        due("past(" + past + ", 2)", x.past(past, 2), kept ? 3 - past % 2 : NONE);
        due("past(" + past + ", 3)", x.past(past, 3), kept ? past % 2 : NONE);
        due("past(" + past + ", 4)", x.past(past, 4), kept ? past % 3 : NONE);
    }

    static void p35() {
        OwnerlessCoin x = lab(0, 500, 500, 500);
        int[] coin = new int[40], output = new int[40];
        for (int r = 0; r < 40; r++) {
            coin[r] = playSomehow(x, r);
            output[r] = x.output(r);
            // not after each round: an object is used for at most 512 calls
            if (r == 15 || r == 16 || r == 39) {
                for (int past = r == 39 ? 22 : 0; past <= r; past++) {
                    pastIs(x, r, past, coin[past], output[past]);
                }
                due("past(r + 1, 0)", x.past(r + 1, 0), NONE);
            }
        }
        due("past(-1, 0)", x.past(-1, 0), BAD);
        due("past(39, 5)", x.past(39, 5), BAD);
        due("past(39, -1)", x.past(39, -1), BAD);
        due("past(99, 5)", x.past(99, 5), BAD);
        due("past(MIN, 0)", x.past(MIN, 0), BAD);
        due("past(MAX, 0)", x.past(MAX, 0), NONE);
        x.undo();
        due("past(23, 0) is kept again", x.past(23, 0), coin[23]);
        due("output(23) is kept again", x.output(23), output[23]);
        due("past(23, 3) is kept again", x.past(23, 3), 1);
        due("past(39, 0) is not", x.past(39, 0), NONE);
        x.begin();
        due("past of the round that is going on", x.past(39, 0), NONE);
    }

    static void p36() {
        promise = "promise 36";
        OwnerlessCoin x = lab(0, 100, 100);
        due("output(0)", x.output(0), 0);
        x.play(9);
        int[] d = draws(9, 4);
        due("output(0)", x.output(0), mix(mix(0, d[0] % Q), d[2] % Q));
        x.begin();
        x.beginOpening();
        due("output(1) of a failed round", x.output(1), 0);
        due("output(-1)", x.output(-1), 0);
        due("output(MIN)", x.output(MIN), 0);
        due("output(2)", x.output(2), 0);
        due("output(MAX)", x.output(MAX), 0);
    }

    static void p37() {
        promise = "promise 37";
        OwnerlessCoin x = lab(0, 100, 100);
        int[] count = new int[2];
        for (int r = 0; r < 30; r++) {
            count[x.play(100 + r)]++;
            due("coins(0)", x.coins(0), count[0]);
            due("coins(1)", x.coins(1), count[1]);
        }
        x.begin();
        x.beginOpening();
        due("coins(0)", x.coins(0), count[0]);
        due("coins(1)", x.coins(1), count[1]);
        due("coins(2)", x.coins(2), BAD);
        due("coins(-1)", x.coins(-1), BAD);
        due("coins(FAILED)", x.coins(FAILED), BAD);
    }

    static void p38() {
        promise = "promise 38";
        OwnerlessCoin x = lab(0, 100, 100);
        due("longestRun()", x.longestRun(), 0);
        x.begin();
        x.beginOpening();
        due("longestRun() after a failed round", x.longestRun(), 0);
        int run = 0, longest = 0, last = -1;
        for (int r = 0; r < 60; r++) {
            if (r % 9 == 8) {
                x.begin();
                x.beginOpening();
                run = 0;
                last = -1;
            }
            int coin = x.play(7 * r);
            run = coin == last ? run + 1 : 1;
            last = coin;
            longest = Math.max(longest, run);
            due("longestRun()", x.longestRun(), longest);
        }
        // a failed round ends a succession
        OwnerlessCoin y = lab(0, 100, 100);
        int seed = 0;
        for (int coins = 0; coins < 6; seed++) {
            if (y.play(seed) == 1) {
                coins++;
                y.behave(0, 0);
                if (coins == 4) {
                    y.begin();
                    y.beginOpening();
                }
            } else {
                y.undo();
            }
        }
        due("longestRun()", y.longestRun(), 4);
        due("coins(1)", y.coins(1), 6);
        due("rounds()", y.rounds(), 7);
    }

    static void p39() {
        promise = "promise 39";
        OwnerlessCoin x = new OwnerlessCoin();
        due("undo()", x.undo(), STATE);
        long[] prints = new long[7];
        prints[0] = x.fingerprint();
        for (int i = 1; i < 7; i++) {
            x.addParticipant(i);
            prints[i] = x.fingerprint();
        }
        for (int left = 3; left >= 0; left--) {
            due("undo()", x.undo(), left);
            due("fingerprint()", x.fingerprint(), prints[left + 2]);
        }
        due("undo()", x.undo(), STATE);
        due("fingerprint()", x.fingerprint(), prints[2]);
        // after an undo, acts are recorded anew
        x.addParticipant(9);
        due("undo()", x.undo(), 0);
        due("undo()", x.undo(), STATE);
        // settings, commitments and shares come back
        OwnerlessCoin y = committing(1, 3);
        int share = y.share(2, 1);
        y.spoil(2, 1, 9);
        y.beginOpening();
        y.close();
        y.setThreshold(5);
        due("undo()", y.undo(), 3);
        due("undo()", y.undo(), 2);
        due("phase()", y.phase(), 2);
        due("share(2, 1)", y.share(2, 1), (share + 9) % Q);
        due("check(2, 1)", y.check(2, 1), power(4, polynomial(21, 2, 2)[1], 2039));
        due("undo()", y.undo(), 1);
        due("phase()", y.phase(), 1);
        due("undo()", y.undo(), 0);
        due("share(2, 1)", y.share(2, 1), share);
        due("isRight(2, 1)", y.isRight(2, 1), 1);
        y.beginOpening();
        due("open", opens(y, 2), 1);
        // what an undone round committed to does not stay
        OwnerlessCoin z = committing(2, 2);
        z.undo();
        z.commit(1, 500, 600);
        z.undo();
        z.commit(1, 11, 1);
        z.beginOpening();
        due("open", z.open(1, 500, 600), 0);
        due("open", opens(z, 1), 1);
        z.close();
        z.begin();
        z.undo();
        z.undo();
        due("lock(0, 0)", z.lock(0, 0), 2);
        // a round between: the lock of the earlier one comes back
        z.close();
        z.begin();
        z.commit(0, 3, 3);
        due("lock(0, 1)", z.lock(0, 1), (3 + slowly(z.lock(0, 0), 100)) % Q);
        z.undo();
        z.undo();
        z.undo();
        due("lock(0, 0)", z.lock(0, 0), 2);
        due("lock(0, 1)", z.lock(0, 1), (1 + slowly(2, 100)) % Q);
        due("digest(0)", z.digest(0), digest(0, 1, 0) & 1073741823);
        due("open(0, 1, 0)", z.open(0, 1, 0), 1);
    }

    /** A number made of the answers to many questions. */
    static long all(OwnerlessCoin x) {
        long f = x.fingerprint();
        f = f * 31 + x.coins(0);
        f = f * 31 + x.coins(1);
        f = f * 31 + x.longestRun();
        for (int what = 0; what < 5; what++) {
            f = f * 31 + x.past(Math.max(0, x.rounds() - 1), what);
        }
        f = f * 31 + x.output(Math.max(0, x.rounds() - 1));
        for (int p = 0; p < 4; p++) {
            f = f * 31 + x.share(p, 1);
            f = f * 31 + x.isRight(p, 1);
        }
        return f;
    }

    /** Whole rounds of every kind are undone, and all that they left is gone. */
    static void p39All() {
        for (int method = 0; method < 3; method++) {
            OwnerlessCoin x = lab(method, 100, 100, 100, 100);
            x.setThreshold(3);
            x.behave(1, 1);
            x.behave(3, 3);
            x.play(1);
            x.play(2);
            long[] before = new long[4];
            for (int i = 0; i < 4; i++) {
                before[i] = all(x);
                x.play(10 + i);
            }
            for (int i = 3; i >= 0; i--) {
                due("undo()", x.undo(), i);
                due("all answers after undo()", all(x), before[i]);
            }
        }
        // the round that is going on comes back, with checks and commitments, after another one
        OwnerlessCoin x = committing(1, 3);
        int[] checks = {x.check(1, 0), x.check(1, 1)};
        x.beginOpening();
        x.close();
        x.begin();
        x.commit(1, 900, 800);
        for (int i = 0; i < 4; i++) {
            x.undo();
        }
        due("members", x.set(0), 7);
        due("committed", x.set(1), 7);
        due("check(1, 0)", x.check(1, 0), checks[0]);
        due("check(1, 1)", x.check(1, 1), checks[1]);
        due("share(1, 2)", x.share(1, 2), at(polynomial(11, 1, 2), 3));
        x.beginOpening();
        due("open", opens(x, 1), 1);
    }

    static void p40() {
        promise = "promise 40";
        due("new", new OwnerlessCoin().fingerprint(), print(0, 0, 0, 0));
        OwnerlessCoin x = lab(1, 100, 100, 5, 100);
        x.behave(3, 2);
        due("before a round", x.fingerprint(), print(0, 0, 0, 0, 100, 0, 0, 0, 0, 100, 0, 0, 0, 0, 5, 0, 0, 0, 0, 100, 0, 0, 0, 2));
        x.begin();
        x.commit(0, 1, 0);
        x.commit(1, 11, 1);
        x.commit(3, 31, 3);
        x.spoil(0, 1, 1);
        x.complain(1, 0);
        due("committing", x.fingerprint(), print(1, 0, 10, 0, 90, 0, 0, 1, 0, 100, 0, 0, 0, 0, 5, 0, 0, 0, 0, 100, 0, 0, 0, 2,
                10, 10, 0, 1, NONE, digest(0, 11, 1) & 1073741823, NONE, digest(0, 31, 3) & 1073741823));
        x.beginOpening();
        opens(x, 1);
        due("opening", x.fingerprint(), print(2, 0, 10, 0, 90, 0, 0, 1, 0, 100, 0, 0, 0, 0, 5, 0, 0, 0, 0, 100, 0, 0, 0, 2,
                10, 10, 2, 1, NONE, digest(0, 11, 1) & 1073741823, NONE, digest(0, 31, 3) & 1073741823));
        opens(x, 3);
        x.close();
        int h = mix(mix(0, 11), 31);
        due("closed", x.fingerprint(), print(0, 1, 0, h, 90, 0, 0, 1, 0, 105, 1, 0, 0, 0, 5, 0, 0, 0, 0, 105, 1, 0, 0, 2));
        x.begin();
        x.beginOpening();
        due("the latest output stays", x.fingerprint(), print(0, 2, 0, h, 90, 0, 0, 1, 0, 105, 1, 0, 0, 0, 5, 0, 0, 0, 0, 105, 1, 0, 0, 2));
    }

    static long print(int... numbers) {
        long f = 23;
        for (int v : numbers) {
            f = 31 * f + v;
        }
        return f;
    }

    /** Errors are no acts, and asking is none. */
    static void errorsChangeNothing() {
        promise = "errors";
        OwnerlessCoin x = committing(1, 3);
        x.beginOpening();
        opens(x, 0);
        long before = x.fingerprint();
        x.addParticipant(1);
        x.addParticipant(-1);
        x.behave(0, 9);
        x.setMethod(0);
        x.setThreshold(1);
        x.setFine(1);
        x.setDelay(1);
        x.begin();
        x.commit(0, 1, 1);
        x.spoil(0, 1, 0);
        x.complain(0, 1);
        x.beginOpening();
        opens(x, 0);
        x.play(1);
        x.results(6);
        x.canForce(6, 1);
        x.bias(6, 2);
        x.recover(1, 7);
        due("fingerprint()", x.fingerprint(), before);
        due("undo() of the opening of 0", x.undo(), 3);
        due("set(2)", x.set(2), 0);
        due("undo() of beginOpening()", x.undo(), 2);
        due("phase()", x.phase(), 1);
    }
}
