import java.io.IOException;
import java.math.BigInteger;
import java.util.TreeSet;

/**
 * A test for each sentence of the document's description that names a boundary case, from "An
 * object is used for at most 512 calls" to ERRORS.
 */
public final class DescriptionTest extends Sentences {
    public static void main(String[] args) throws IOException {
        readDocument(args);
        from("Description");
        numbers();
        participantsAndPot();
        settings();
        rounds();
        digestsOfCopies();
        shares();
        rightShares();
        complaints();
        locks();
        opening();
        withholding();
        recovering();
        outputs();
        sharingThePot();
        playing();
        cheating();
        complainingInPlay();
        deciding();
        coalitions();
        slowComputations();
        primes();
        proofs();
        history();
        errors();
        calls();
        finishSentences("description");
    }

    static void numbers() {
        sentence("computed as follows, with int multiplication that overflows", () -> {
            for (int nonce : new int[] {MIN, MAX, -1, 0, 1, 65535, 65536}) {
                for (int secret : new int[] {0, 1, 1018}) {
                    OwnerlessCoin x = crowd(0, 2);
                    x.begin();
                    due("commit(0, " + secret + ", " + nonce + ")", x.commit(0, secret, nonce), digest(0, secret, nonce) & PUBLIC);
                }
            }
        });
        sentence("(with overflow) and returns state >>> 16, a number from 0 to 65535", () -> {
            // a draw of 32768 or more is the upper half of a negative state
            for (int draw : new int[] {0, 1, 32767, 32768, 65534, 65535}) {
                OwnerlessCoin x = crowd(1, 2);
                x.begin();
                x.commit(0, 0, seedDrawing(draw));
                due("share of 0 for draw " + draw, x.share(0, 0), draw % Q);
                due("share of 1 for draw " + draw, x.share(0, 1), 2 * (draw % Q) % Q);
            }
            for (int seed : new int[] {MIN, MAX, -1, 0}) {
                OwnerlessCoin x = crowd(0, 3);
                x.play(seed);
                due("output after play(" + seed + ")", x.output(0), mixed(0, secretsOf(seed, 3)));
            }
        });
        sentence("A secret is a number from 0 to Q - 1.", () -> {
            for (int draw : new int[] {0, 1018, 1019, 2037, 2038, 65535}) {
                int seed = seedDrawing(draw);
                OwnerlessCoin x = crowd(0, 2);
                x.play(seed);
                due("output with the secret of draw " + draw, x.output(0), mixed(0, draw % Q, draws(seed, 3)[2] % Q));
            }
        });
    }

    static void participantsAndPot() {
        sentence("There are at most 8 participants, numbered from 0.", () -> {
            OwnerlessCoin x = new OwnerlessCoin();
            due("account(0, 0) without participants", x.account(0, 0), BAD);
            for (int p = 0; p < 8; p++) {
                due("addParticipant", x.addParticipant(p), p);
                due("balance of the newest", x.account(p, 0), p);
                due("account of one more", x.account(p + 1, 0), BAD);
            }
            due("a ninth", x.addParticipant(8), FULL);
            due("account(8, 0)", x.account(8, 0), BAD);
        });
        sentence("0 honest (initially)", () -> {
            OwnerlessCoin x = full();
            for (int p = 0; p < 8; p++) {
                due("behavior", x.account(p, 4), 0);
            }
            x.play(1);
            due("all have opened", x.past(0, 2), 8);
        });
        sentence("There is a pot, initially 0.", () -> due("pot()", new OwnerlessCoin().pot(), 0));
        sentence("the amount is the setting fine or, if the balance is less, the whole balance", () -> {
            // the balance when the second fine is due: one more than the fine, the fine, one less, 1, 0
            for (int second : new int[] {11, 10, 9, 1, 0}) {
                OwnerlessCoin x = lab(1, 10 + second, 100);
                x.begin();
                commits(x, 1);
                x.complain(0, 1);
                due("balance after a fine", x.account(0, 0), second);
                due("pot after a fine", x.pot(), 10);
                due("complain(0, 1)", x.complain(0, 1), 0);
                due("balance after the fine from " + second, x.account(0, 0), Math.max(0, second - 10));
                due("pot after the fine from " + second, x.pot(), 10 + Math.min(10, second));
            }
            for (int fine : new int[] {0, 1, 1000}) {
                OwnerlessCoin x = lab(0, 1000, 1000);
                x.setFine(fine);
                x.behave(0, 1);
                x.behave(1, 1);
                x.play(1);
                due("balance after fine " + fine, x.account(0, 0), 1000 - fine);
                due("pot after fine " + fine, x.pot(), 2 * fine);
                due("withheld", x.account(0, 2), 1);
            }
        });
    }

    static void settings() {
        sentence("Method: 0 zero, 1 shares, 2 delay; initially 0.", () -> {
            due("setMethod(1)", new OwnerlessCoin().setMethod(1), 0);
            OwnerlessCoin x = lab(0, 50, 50);
            x.play(1);
            due("method of the first round", x.past(0, 4), 0);
            for (int method = 0; method < 3; method++) {
                OwnerlessCoin y = committing(method, 2);
                due("has shares with method " + method, y.share(0, 0) >= 0 ? 1 : 0, method == 1 ? 1 : 0);
                due("has locks with method " + method, y.lock(0, 0) >= 0 ? 1 : 0, method == 2 ? 1 : 0);
            }
        });
        sentence("Threshold: 1 to 8, initially 2.", () -> {
            due("setThreshold(1)", new OwnerlessCoin().setThreshold(1), 2);
            OwnerlessCoin x = lab(1, 50, 50);
            x.begin();
            commits(x, 0);
            due("check(0, 1)", x.check(0, 1), power(4, polynomial(1, 0, 2)[1], P));
            due("check(0, 2)", x.check(0, 2), NONE);
        });
        sentence("Fine: 0 to 1000, initially 10.", () -> {
            due("setFine(1000)", new OwnerlessCoin().setFine(1000), 10);
            due("begin() with balances 10", lab(0, 10, 10).begin(), 0);
            due("begin() with a balance 9", lab(0, 10, 9).begin(), STATE);
        });
        sentence("Delay: 1 to 5000, initially 100.", () -> {
            due("setDelay(5000)", new OwnerlessCoin().setDelay(5000), 100);
            due("lock(0, 1)", committing(2, 2).lock(0, 1), (1 + slowly(2, 100)) % Q);
        });
        sentence("They can be changed only when no round is going on.", () -> {
            for (int method = 0; method < 3; method++) {
                int m = method;
                for (Start start : new Start[] {() -> amidCommitting(m), () -> amidOpening(m)}) {
                    changesNothing("setMethod(1)", start, x -> x.setMethod(1), STATE);
                    changesNothing("setThreshold(3)", start, x -> x.setThreshold(3), STATE);
                    changesNothing("setFine(3)", start, x -> x.setFine(3), STATE);
                    changesNothing("setDelay(3)", start, x -> x.setDelay(3), STATE);
                }
                OwnerlessCoin x = amidOpening(method);
                x.close();
                due("setMethod(0) after the round", x.setMethod(0), method);
            }
        });
    }

    static void rounds() {
        sentence("phase 0 means that no round is going on", () -> {
            OwnerlessCoin x = crowd(0, 2);
            due("phase()", x.phase(), 0);
            x.begin();
            due("phase() in the committing", x.phase(), 1);
            commits(x, 0);
            commits(x, 1);
            x.beginOpening();
            due("phase() in the opening", x.phase(), 2);
            x.close();
            due("phase() after close()", x.phase(), 0);
            x.begin();
            x.beginOpening();
            due("phase() after a failed round", x.phase(), 0);
            x.play(1);
            due("phase() after play()", x.phase(), 0);
        });
        sentence("the participants whose balance is at least the fine when it begins", () -> {
            for (int fine : new int[] {0, 1, 10, 1000}) {
                OwnerlessCoin x = lab(0, fine, Math.max(0, fine - 1), fine + 1, 1000000);
                x.setFine(fine);
                x.begin();
                due("members with fine " + fine, x.set(0), fine == 0 ? 15 : 13);
            }
            OwnerlessCoin x = lab(1, 10, 100, 100);
            x.begin();
            commits(x, 1);
            x.complain(0, 1);
            due("a balance below the fine later", x.account(0, 0), 0);
            due("members", x.set(0), 7);
            due("it still commits", commits(x, 0), digest(0, 1, 0) & PUBLIC);
            x.beginOpening();
            x.close();
            x.begin();
            due("members of the next round", x.set(0), 6);
        });
        sentence("Rounds are numbered from 0.", () -> {
            OwnerlessCoin x = crowd(0, 2);
            due("begin()", x.begin(), 0);
            due("digest in round 0", commits(x, 0), digest(0, 1, 0) & PUBLIC);
            x.beginOpening();
            due("begin() after a failed round", x.begin(), 1);
            due("digest in round 1", commits(x, 0), digest(1, 1, 0) & PUBLIC);
            commits(x, 1);
            x.beginOpening();
            x.close();
            x.play(1);
            due("begin() after three rounds", x.begin(), 3);
            due("digest in round 3", commits(x, 0), digest(3, 1, 0) & PUBLIC);
        });
    }

    static void digestsOfCopies() {
        sentence("A digest that another member has in this round already is refused as a copy.", () -> {
            int taken = digest(0, 1, 0);
            Start start = () -> {
                OwnerlessCoin x = crowd(1, 3);
                x.begin();
                commits(x, 0);
                return x;
            };
            changesNothing("commit of the same", start, x -> x.commit(1, 1, 0), COPY);
            changesNothing("commit of the digest by another secret", start, x -> x.commit(2, 5, nonceFor(0, 5, taken)), COPY);
            for (int other : new int[] {taken ^ 1, taken ^ 1 << 29, taken ^ 1 << 30, taken ^ MIN, ~taken}) {
                OwnerlessCoin x = start.make();
                due("commit of a digest with a bit that differs", x.commit(1, 5, nonceFor(0, 5, other)), other & PUBLIC);
            }
        });
        sentence("another member has in this round already", () -> {
            OwnerlessCoin x = afterExpulsion();
            x.undo();
            x.undo();
            x.undo();
            due("members that have committed", x.set(1), 7);
            due("commit of a member's digest", x.commit(3, 21, 2), COPY);
            x.spoil(2, 0, 1);
            due("complain(0, 2)", x.complain(0, 2), 1);
            due("commit of an expelled one's digest", x.commit(3, 21, 2), digest(0, 21, 2) & PUBLIC);
            OwnerlessCoin y = opening(0, 2);
            y.close();
            y.begin();
            due("commit of a digest of the round before", y.commit(0, 3, nonceFor(1, 3, digest(0, 1, 0))), digest(0, 1, 0) & PUBLIC);
        });
    }

    static void shares() {
        sentence("its polynomial has the coefficients a0 = secret and a1 to a(t-1)", () -> {
            for (int threshold = 1; threshold <= 8; threshold++) {
                for (int secret : new int[] {0, 1018}) {
                    OwnerlessCoin x = lab(1, 50, 50, 50, 50, 50, 50, 50, 50);
                    x.setThreshold(threshold);
                    x.begin();
                    x.commit(7, secret, -1);
                    int[] a = polynomial(secret, -1, threshold);
                    for (int j = 0; j < 8; j++) {
                        due("share of " + j + " with threshold " + threshold, x.share(7, j), at(a, j + 1));
                    }
                    for (int k = 0; k < threshold; k++) {
                        due("check " + k + " with threshold " + threshold, x.check(7, k), power(4, a[k], P));
                    }
                    due("check(7, threshold)", x.check(7, threshold), NONE);
                }
            }
        });
        sentence("Each member j gets the share", () -> {
            OwnerlessCoin x = lab(1, 100, 100, 5);
            x.begin();
            commits(x, 0);
            int[] a = polynomial(1, 0, 2);
            due("the dealer's own share", x.share(0, 0), at(a, 1));
            due("the share of one that has not committed", x.share(0, 1), at(a, 2));
            due("the share of no member", x.share(0, 2), NONE);
        });
    }

    static void rightShares() {
        sentence("Share s of member j from member p is right if G^s modulo P is the product", () -> {
            for (int threshold : new int[] {1, 2, 8}) {
                for (int by = 1; by < Q; by++) {
                    OwnerlessCoin x = committing(1, 8, threshold);
                    x.spoil(6, 7, by);
                    due("isRight after spoil(6, 7, " + by + ")", x.isRight(6, 7), 0);
                    x.spoil(6, 7, Q - by);
                    due("isRight after the way back", x.isRight(6, 7), 1);
                }
            }
        });
        sentence("(Shares that were not spoiled are right.)", () -> {
            for (int threshold = 1; threshold <= 8; threshold++) {
                OwnerlessCoin x = committing(1, 8, threshold);
                x.spoil(3, 4, 1);
                for (int p = 0; p < 8; p++) {
                    for (int j = 0; j < 8; j++) {
                        due("isRight(" + p + ", " + j + ")", x.isRight(p, j), p == 3 && j == 4 ? 0 : 1);
                    }
                }
            }
        });
    }

    static void complaints() {
        sentence("it pays a fine and is no member of the round any more", () -> {
            OwnerlessCoin x = afterExpulsion();
            due("balance of the dealer", x.account(2, 0), 90);
            due("balance of the complaining one", x.account(0, 0), 100);
            due("members", x.set(0), 11);
            due("it can't commit again", x.commit(2, 5, 5), STATE);
            due("it has no shares", x.share(0, 2), NONE);
            due("it gave no shares", x.share(2, 0), NONE);
            due("beginOpening()", x.beginOpening(), 3);
            due("it can't open", opens(x, 2), STATE);
            x.close();
            due("it does not withhold", x.account(2, 2), 0);
            due("it pays once", x.account(2, 0), 90);
            x.begin();
            due("members of the next round", x.set(0), 15);
        });
        sentence("A member that complains about a right share pays a fine itself.", () -> {
            OwnerlessCoin x = committing(1, 3);
            due("complain(0, 2)", x.complain(0, 2), 0);
            due("balance of the complaining one", x.account(0, 0), 90);
            due("balance of the dealer", x.account(2, 0), 100);
            due("members", x.set(0), 7);
            due("pot()", x.pot(), 10);
        });
    }

    static void locks() {
        sentence("the base is 2 plus (the first draw of the generator with the nonce as seed) modulo 1000", () -> {
            int[] draw = {0, 999, 1000, 1999, 32768, 65535}, base = {2, 1001, 2, 1001, 770, 537};
            for (int i = 0; i < draw.length; i++) {
                OwnerlessCoin x = crowd(2, 2);
                x.begin();
                x.commit(1, 0, seedDrawing(draw[i]));
                due("base for draw " + draw[i], x.lock(1, 0), base[i]);
            }
        });
        sentence("the lock number is (secret + slow(base, delay)) modulo Q", () -> {
            for (int delay : new int[] {1, 2, 5000}) {
                int rest = slowly(2, delay) % Q;
                // the sum is just below Q, is Q, and is as great as it can be
                for (int secret : new int[] {0, Q - 1 - rest, (Q - rest) % Q, 1018}) {
                    OwnerlessCoin x = crowd(2, 2);
                    x.setDelay(delay);
                    x.begin();
                    x.commit(0, secret, seedDrawing(0));
                    due("lock number of " + secret, x.lock(0, 1), (secret + rest) % Q);
                }
            }
        });
    }

    static void opening() {
        sentence("members that have not committed are no members any more (they pay nothing)", () -> {
            OwnerlessCoin x = crowd(1, 4);
            x.begin();
            commits(x, 0);
            commits(x, 3);
            x.beginOpening();
            due("members", x.set(0), 9);
            due("balance of 1", x.account(1, 0), 100);
            due("its share", x.share(0, 1), NONE);
            x.close();
            due("balance of 1 in the end", x.account(1, 0), 100);
            due("it has not withheld", x.account(1, 2), 0);
        });
        sentence("If fewer than two members are left then, the round has failed, and no round is going on.", () -> {
            for (int left = 0; left <= 3; left++) {
                OwnerlessCoin x = crowd(0, 3);
                x.begin();
                for (int p = 0; p < left; p++) {
                    commits(x, p);
                }
                due("beginOpening() with " + left, x.beginOpening(), left < 2 ? FAILED : left);
                due("phase() with " + left, x.phase(), left < 2 ? 0 : 2);
                due("rounds() with " + left, x.rounds(), left < 2 ? 1 : 0);
                due("past(0, 0) with " + left, x.past(0, 0), left < 2 ? FAILED : NONE);
                due("pot()", x.pot(), 0);
            }
            // an expelled one is not left
            OwnerlessCoin y = committing(1, 2);
            y.spoil(0, 1, 1);
            y.complain(1, 0);
            due("beginOpening() after an expulsion", y.beginOpening(), FAILED);
            due("members", y.past(0, 1), 2);
        });
        sentence("it is opened if these are what it committed to, otherwise nothing changes", () -> {
            OwnerlessCoin x = opening(0, 2);
            long before = x.fingerprint();
            due("open with a secret one too great", x.open(1, 12, 1), 0);
            due("open with a secret one too small", x.open(1, 10, 1), 0);
            due("open with a nonce one too great", x.open(1, 11, 2), 0);
            due("open with a nonce one too small", x.open(1, 11, 0), 0);
            due("open with another's", x.open(1, 1, 0), 0);
            due("open with the digest alone", x.open(1, 5, nonceFor(0, 5, digest(0, 11, 1))), 0);
            due("fingerprint()", x.fingerprint(), before);
            due("open(1, 11, 1)", x.open(1, 11, 1), 1);
            due("opened", x.set(2), 2);
        });
    }

    static void withholding() {
        sentence("Each member that has not opened pays a fine (it withholds).", () -> {
            for (int opened = 0; opened < 8; opened++) {
                OwnerlessCoin x = opening(0, 3);
                for (int p = 0; p < 3; p++) {
                    if ((opened >> p & 1) == 1) {
                        opens(x, p);
                    }
                }
                x.close();
                for (int p = 0; p < 3; p++) {
                    due("withheld", x.account(p, 2), 1 - (opened >> p & 1));
                    due("opened", x.account(p, 1), opened >> p & 1);
                }
                due("money is kept", x.account(0, 0) + x.account(1, 0) + x.account(2, 0) + x.pot(), 300);
            }
        });
        sentence("If it withholds, this is 0 with method 0.", () -> {
            OwnerlessCoin x = opening(0, 3);
            opens(x, 1);
            x.close();
            due("output", x.output(0), mixed(0, 0, 11, 0));
        });
    }

    static void recovering() {
        sentence("of the t opened members with the smallest numbers who have such shares, where t is the threshold", () -> {
            int all = mixed(0, 1, 11, 21, 31, 41, 51, 61, 71);
            for (int threshold = 1; threshold <= 8; threshold++) {
                for (int opened = 0; opened <= 8; opened++) {
                    OwnerlessCoin x = committing(1, 8, threshold);
                    x.beginOpening();
                    for (int p = 8 - opened; p < 8; p++) {
                        opens(x, p);
                    }
                    boolean fails = opened < 8 && opened < threshold;
                    due("close() with threshold " + threshold + " and " + opened, x.close(), fails ? FAILED : all & 1);
                    due("output", x.output(0), fails ? 0 : all);
                }
            }
        });
        sentence("if there are fewer than t, the round fails", () -> {
            // 3 withholds: wrong shares of 0 and 1 leave two right ones, one of 2 leaves one
            OwnerlessCoin x = opening(1, 5);
            for (int p : new int[] {0, 1, 2, 4}) {
                opens(x, p);
            }
            x.spoil(3, 0, 5);
            x.spoil(3, 1, 1018);
            int all = mixed(0, 1, 11, 21, 31, 41);
            due("close() with two right ones", x.close(), all & 1);
            due("output", x.output(0), all);
            x.undo();
            x.spoil(3, 2, 1);
            due("close() with one", x.close(), FAILED);
            x.undo();
            x.spoil(3, 1, 1);
            due("close() with two again", x.close(), all & 1);
            // a right share helps only if its holder is opened
            OwnerlessCoin y = opening(1, 3);
            opens(y, 0);
            due("close() with one opened", y.close(), FAILED);
            // a wrong share of an opened dealer does no harm
            OwnerlessCoin z = opening(1, 3);
            z.spoil(1, 0, 1);
            z.spoil(1, 2, 1);
            opens(z, 0);
            opens(z, 1);
            due("close() with wrong shares of an opened one", z.close(), coin(1, 11, 21));
        });
        sentence("With method 2 it is recovered as (lock number - slow(base, delay)) modulo Q, from 0 to Q - 1.", () -> {
            for (int secret : new int[] {0, 1, 1018}) {
                for (int nonce : new int[] {MIN, -1, 0, 5, MAX}) {
                    OwnerlessCoin x = crowd(2, 2);
                    x.setDelay(5000);
                    x.begin();
                    x.commit(0, secret, nonce);
                    x.commit(1, 7, 7);
                    x.beginOpening();
                    x.close();
                    due("output with the secret " + secret + " withheld", x.output(0), mixed(0, secret, 7));
                }
            }
        });
    }

    static void outputs() {
        sentence("h is the output of the latest round that did not fail (0 if there was none)", () -> {
            OwnerlessCoin x = crowd(0, 2);
            x.begin();
            x.beginOpening();
            x.play(1);
            int h = mixed(0, secretsOf(1, 2));
            due("output after a failed round alone", x.output(1), h);
            x.play(2);
            h = mixed(h, secretsOf(2, 2));
            due("output after a round", x.output(2), h);
            for (int i = 0; i < 20; i++) {
                x.begin();
                x.beginOpening();
            }
            x.play(3);
            due("output after twenty failed rounds", x.output(23), mixed(h, secretsOf(3, 2)));
        });
        sentence("for each member in ascending order, h becomes mix(h, contribution)", () -> {
            OwnerlessCoin x = opening(0, 8);
            for (int p = 7; p >= 0; p--) {
                opens(x, p);
            }
            x.close();
            due("output", x.output(0), mixed(0, 1, 11, 21, 31, 41, 51, 61, 71));
        });
        sentence("The final h is the output, and the coin is its lowest bit.", () -> {
            OwnerlessCoin x = crowd(0, 2);
            boolean[] seen = new boolean[4];
            int h = 0;
            for (int seed = 0; seed < 30; seed++) {
                h = mixed(h, secretsOf(seed, 2));
                due("play(" + seed + ")", x.play(seed), h & 1);
                due("output", x.output(seed), h);
                seen[(h < 0 ? 2 : 0) + (h & 1)] = true;
            }
            for (boolean s : seen) {
                due("both coins from outputs of both signs", s ? 1 : 0, 1);
            }
        });
    }

    static void sharingThePot() {
        sentence("each of them gets pot / (number of opened members), rounded down, from the pot", () -> {
            for (int fine : new int[] {0, 1, 2, 3, 4, 5, 6, 1000}) {
                OwnerlessCoin x = lab(0, 1000, 1000, 1000, 1000);
                x.setFine(fine);
                x.behave(1, 1);
                x.play(1);
                due("pot after fine " + fine, x.pot(), fine % 3);
                due("balance of an opened one", x.account(3, 0), 1000 + fine / 3);
                due("balance of the other", x.account(1, 0), 1000 - fine);
            }
        });
        sentence("If the round does not fail and some members are opened", () -> {
            OwnerlessCoin x = opening(0, 2);
            x.close();
            due("pot with none opened", x.pot(), 20);
            x.play(1);
            due("it is shared in the next round", x.pot(), 0);
            due("balance", x.account(0, 0), 100);
            OwnerlessCoin y = opening(1, 3);
            opens(y, 0);
            due("close()", y.close(), FAILED);
            due("pot of a failed round", y.pot(), 20);
            due("balance of the opened one", y.account(0, 0), 100);
        });
    }

    static void playing() {
        sentence("for each member in ascending order a secret (a draw modulo Q) and a nonce (the next draw) are drawn", () -> {
            // no draws for those that are no members
            OwnerlessCoin x = lab(0, 5, 100, 5, 100, 100, 5);
            x.play(-77);
            due("output", x.output(0), mixed(0, secretsOf(-77, 3)));
            due("members", x.past(0, 1), 26);
        });
        sentence("(a copy does not commit)", () -> {
            // with this seed the first two members of round 0 draw numbers with one digest
            int seed = -1867605333;
            int[] d = draws(seed, 6);
            due("the digests", digest(0, d[0] % Q, d[1]), digest(0, d[2] % Q, d[3]));
            OwnerlessCoin x = crowd(0, 3);
            due("play() of three", x.play(seed), coin(d[0] % Q, d[4] % Q));
            due("members", x.past(0, 1), 5);
            due("balance of the copying one", x.account(1, 0), 100);
            OwnerlessCoin y = crowd(0, 2);
            due("play() of two", y.play(seed), FAILED);
            due("members", y.past(0, 1), 1);
        });
        sentence("Members with behavior 1 do not open.", () -> {
            OwnerlessCoin x = crowd(0, 2);
            x.behave(0, 1);
            x.behave(1, 1);
            due("play() with silent ones alone", x.play(1), coin(0, 0));
            due("opened", x.past(0, 2), 0);
        });
        sentence("Members with behavior 0 or 3 open, in ascending order.", () -> {
            for (int method : new int[] {0, 2}) {
                OwnerlessCoin x = crowd(method, 4);
                x.behave(0, 3);
                x.behave(3, 3);
                x.play(1);
                due("opened", x.past(0, 2), 4);
                due("none is expelled without shares", x.account(0, 3) + x.account(3, 3), 0);
            }
        });
    }

    static void cheating() {
        sentence("the member with the next greater number, or the smallest one after the greatest", () -> {
            // 1 and 4 are no members; the one that follows complains before its turn comes to be expelled
            int[] cheats = {0, 2, 3, 5};
            for (int p : cheats) {
                OwnerlessCoin x = lab(1, 100, 5, 100, 100, 5, 100);
                x.behave(p, 3);
                x.play(9);
                due("members without " + p, x.past(0, 1), 45 & ~(1 << p));
                due("expelled", x.account(p, 3), 1);
                due("balance of " + p, x.account(p, 0), 90);
            }
            OwnerlessCoin y = lab(1, 5, 100, 100, 5);
            y.behave(2, 3);
            due("play() with two members", y.play(9), FAILED);
            due("the greatest cheats the smallest", y.account(2, 3), 1);
        });
        sentence("each member with behavior 3 that has committed then has spoiled, by 1, its share for the next member", () -> {
            // 1 draws a copy: it can't deal wrong shares, but gets one from 0, and complains
            OwnerlessCoin x = crowd(1, 4);
            x.behave(0, 3);
            x.behave(1, 3);
            x.play(-1867605333);
            due("expelled 0", x.account(0, 3), 1);
            due("expelled 1", x.account(1, 3), 0);
            due("members", x.past(0, 1), 12);
        });
    }

    static void complainingInPlay() {
        sentence("(as long as both are members)", () -> {
            // of three, 0 has 2 expelled, 1 has 0 expelled, and 2 is no member when its turn comes
            OwnerlessCoin x = crowd(1, 3);
            for (int p = 0; p < 3; p++) {
                x.behave(p, 3);
            }
            due("play() with three", x.play(4), FAILED);
            due("members", x.past(0, 1), 2);
            due("pot()", x.pot(), 20);
            OwnerlessCoin y = crowd(1, 8);
            for (int p = 0; p < 8; p++) {
                y.behave(p, 3);
            }
            due("play() with eight", y.play(4), FAILED);
            due("members", y.past(0, 1), 64);
            // 1 cheats 2 and 2 cheats 0: 2 is expelled first, so 1 stays
            OwnerlessCoin z = crowd(1, 3);
            z.behave(1, 3);
            z.behave(2, 3);
            due("play()", z.play(4), coin(secretsOf(4, 3)[0], secretsOf(4, 3)[1]));
            due("expelled 1", z.account(1, 3), 0);
        });
    }

    static void deciding() {
        sentence("such a member does not open if close() now would return 1 and close() after its opening would not return 1; "
                + "otherwise it opens", () -> {
            TreeSet<Integer> cases = new TreeSet<>();
            for (int seed = 0; seed < 40; seed++) {
                OwnerlessCoin x = crowd(0, 2);
                x.behave(0, 2);
                x.behave(1, 1);
                int secret = secretsOf(seed, 1)[0];
                int now = coin(0, 0), after = coin(secret, 0);
                boolean opens = !(now == 1 && after == 0);
                due("play(" + seed + ")", x.play(seed), opens ? after : now);
                due("opened with " + now + " and " + after, x.account(0, 1), opens ? 1 : 0);
                // the second round starts from an output, so that not opening gives 1 as well
                int h = x.output(0);
                secret = secretsOf(seed + 99, 1)[0];
                now = mixed(h, 0, 0) & 1;
                after = mixed(h, secret, 0) & 1;
                due("play(" + (seed + 99) + ")", x.play(seed + 99), now == 1 && after == 0 ? now : after);
                due("withheld with " + now + " and " + after, x.past(1, 2), now == 1 && after == 0 ? 0 : 1);
                cases.add(2 * now + after);
            }
            due("all four cases", cases.size(), 4);
        });
        sentence("Then those with behavior 2 decide, in ascending order", () -> {
            for (int seed = 0; seed < 40; seed++) {
                OwnerlessCoin x = crowd(0, 3);
                x.behave(0, 2);
                x.behave(2, 2);
                int[] s = secretsOf(seed, 3);
                int first = coin(0, s[1], 0) == 1 && coin(s[0], s[1], 0) != 1 ? 0 : s[0];
                int last = coin(first, s[1], 0) == 1 && coin(first, s[1], s[2]) != 1 ? 0 : s[2];
                due("play(" + seed + ")", x.play(seed), coin(first, s[1], last));
                due("output", x.output(0), mixed(0, first, s[1], last));
            }
        });
        sentence("close() now would return 1", () -> {
            // a failure is not 1: the selfish one opens, whether this helps or not
            for (int threshold : new int[] {2, 3}) {
                OwnerlessCoin x = crowd(1, 3);
                x.setThreshold(threshold);
                x.behave(1, 2);
                x.behave(2, 1);
                due("play() with threshold " + threshold, x.play(8), threshold == 2 ? coin(secretsOf(8, 3)) : FAILED);
                due("opened", x.account(1, 1), 1);
            }
        });
    }

    static void coalitions() {
        sentence("Its choices are all its subsets", () -> {
            OwnerlessCoin x = opening(0, 3);
            due("results(0)", x.results(0), 1);
            due("results(1)", x.results(1), 2);
            due("canForce(0, 0) or canForce(0, 1)", x.canForce(0, 0) + x.canForce(0, 1), 1);
            due("canForce(0, coin)", x.canForce(0, coin(1, 11, 21)), 1);
            // the choice that none opens is among them, and the one that all open
            TreeSet<Integer> outputs = new TreeSet<>();
            for (int choice = 0; choice < 8; choice++) {
                outputs.add(mixed(0, (choice & 1) * 1, (choice >> 1 & 1) * 11, (choice >> 2) * 21));
            }
            due("results(7)", x.results(7), outputs.size());
        });
        sentence("the members of the subset open, the other members of the coalition withhold, and all members outside the coalition open", () -> {
            OwnerlessCoin x = opening(0, 3);
            opens(x, 1);
            for (int coin = 0; coin < 2; coin++) {
                boolean can = coin(1, 11, 21) == coin || coin(0, 11, 21) == coin;
                due("canForce(1, " + coin + ")", x.canForce(1, coin), can ? 1 : 0);
            }
        });
        sentence("Each choice has a result: the output, or a failure.", () -> {
            OwnerlessCoin x = opening(1, 3);
            due("results of one, which can't fail", x.results(1), 1);
            due("results of two, which can", x.results(3), 2);
            due("results of three", x.results(7), 2);
        });
    }

    static void slowComputations() {
        sentence("slow(b, d) is b^(2^d) modulo N, by d successive squarings.", () -> {
            OwnerlessCoin x = new OwnerlessCoin();
            for (int b : new int[] {2, 3, 7906, 7907, 7908, 7912, 7913, 7918, 7919, 7920, 15814, 100000}) {
                due("slow(" + b + ", 0)", x.slow(b, 0), b);
                due("slow(" + b + ", 1)", x.slow(b, 1), (int) ((long) b * b % N));
                due("slow(" + b + ", 5000)", x.slow(b, 5000), slowly(b, 5000));
            }
            // squares just below N and just above it
            due("slow(7912, 1)", x.slow(7912, 1), 7912 * 7912);
            due("slow(7913, 1)", x.slow(7913, 1), 7913 * 7913 - N);
            due("slow(2, 25)", x.slow(2, 25), slowly(2, 25));
        });
    }

    static void primes() {
        sentence("Its prime is the least prime number that is at least 257 + (mix(mix(19, b), slow(b, d)) >>> 22)", () -> {
            OwnerlessCoin x = new OwnerlessCoin();
            // for the least and the greatest number there can be, a prime itself, and one above a prime
            int[] least = {257, 1280, 263, 264, 1277, 1278}, prime = {257, 1283, 263, 269, 1277, 1279};
            for (int i = 0; i < least.length; i++) {
                int b = 2;
                while (leastForPrime(b, b) != least[i]) {
                    b++;
                }
                due("prime(" + b + ", 0), at least " + least[i], x.prime(b, 0), prime[i]);
            }
        });
    }

    static void proofs() {
        sentence("its proof, with this prime l, is b^(floor(2^d / l)) modulo N", () -> {
            OwnerlessCoin x = new OwnerlessCoin();
            for (int b : new int[] {2, 7907, 100000}) {
                due("proof(" + b + ", 0)", x.proof(b, 0), 1);
                // 2^8 is below every prime, 2^9 and 2^10 are about them, 2^11 is above
                for (int d = 7; d <= 13; d++) {
                    int exponent = (1 << d) / primeFor(b, slowly(b, d));
                    due("proof(" + b + ", " + d + ")", x.proof(b, d), power(b, exponent, N));
                }
                due("proof(" + b + ", 8)", x.proof(b, 8), 1);
                due("proof(" + b + ", 5000)", x.proof(b, 5000), proofFor(b, 5000));
            }
        });
        sentence("w^l * b^(2^d modulo l) modulo N equals y", () -> {
            OwnerlessCoin x = new OwnerlessCoin();
            // 2^0 modulo l is 1, and a prime is odd: (N - 1)^l is -1
            for (int b : new int[] {2, 3, 99999, 100000}) {
                due("accepts(" + b + ", 0, " + b + ", 1)", x.accepts(b, 0, b, 1), 1);
                due("accepts(" + b + ", 0, N - " + b + ", N - 1)", x.accepts(b, 0, N - b, N - 1), 1);
                due("accepts(" + b + ", 0, N - " + b + ", 1)", x.accepts(b, 0, N - b, 1), 0);
                due("accepts(" + b + ", 0, 0, 0)", x.accepts(b, 0, 0, 0), 1);
                due("accepts(" + b + ", 0, 0, 1)", x.accepts(b, 0, 0, 1), 0);
                due("accepts(" + b + ", 0, 1, 0)", x.accepts(b, 0, 1, 0), 0);
                proofOfTheGreatestValue(x, b, 0);
                proofOfTheGreatestValue(x, b, 1000000000);
            }
        });
    }

    /** For y = N - 1 there is a proof, by one who knows the factors, if the prime has an inverse. */
    static void proofOfTheGreatestValue(OwnerlessCoin x, int b, int d) {
        BigInteger n = BigInteger.valueOf(N), l = BigInteger.valueOf(primeFor(b, N - 1));
        BigInteger rest = BigInteger.valueOf(b).modPow(powerOfTwo(d, l), n);
        BigInteger power = BigInteger.valueOf(N - 1).multiply(rest.modInverse(n)).mod(n);
        int proof = power.modPow(l.modInverse(ORDER), n).intValue();
        due("accepts(" + b + ", " + d + ", N - 1, its proof)", x.accepts(b, d, N - 1, proof), 1);
        due("accepts(" + b + ", " + d + ", N - 2, that proof)", x.accepts(b, d, N - 2, proof), 0);
    }

    static void history() {
        sentence("The latest 16 rounds that ended are kept.", () -> {
            OwnerlessCoin x = crowd(0, 2);
            int[] output = new int[36];
            for (int r = 0; r < 36; r++) {
                x.play(r);
                output[r] = x.output(r);
                int oldest = Math.max(0, r - 15);
                due("output of the oldest one kept", x.output(oldest), output[oldest]);
                due("coin of the oldest one kept", x.past(oldest, 0), output[oldest] & 1);
                if (oldest > 0) {
                    due("output of the one before", x.output(oldest - 1), 0);
                    due("coin of the one before", x.past(oldest - 1, 0), NONE);
                }
                due("coin of the one to come", x.past(r + 1, 0), NONE);
            }
        });
        sentence("The latest 16 rounds", () -> {
            // rounds that were dropped for later ones are kept again when these are undone
            for (int rounds = 16; rounds <= 40; rounds++) {
                OwnerlessCoin x = crowd(0, 2);
                int[] output = new int[rounds];
                for (int r = 0; r < rounds; r++) {
                    x.play(r);
                    output[r] = mixed(r == 0 ? 0 : output[r - 1], secretsOf(r, 2));
                }
                for (int seed = 0; seed < 4; seed++) {
                    x.play(seed);
                }
                while (x.undo() > 0) {
                    due("output of the oldest one kept", x.output(x.rounds() - 16) != 0 ? 1 : 0, 1);
                }
                due("rounds() after undos", x.rounds(), rounds);
                for (int r = 0; r < rounds; r++) {
                    due("output(" + r + ")", x.output(r), r < rounds - 16 ? 0 : output[r]);
                    due("past(" + r + ", 0)", x.past(r, 0), r < rounds - 16 ? NONE : output[r] & 1);
                }
            }
        });
        sentence("a history of at most 4 states is kept", () -> {
            for (int acts = 0; acts <= 6; acts++) {
                OwnerlessCoin x = new OwnerlessCoin();
                for (int i = 0; i < acts; i++) {
                    x.addParticipant(i);
                }
                due("states after " + acts + " acts", statesOf(x), Math.min(acts, 4));
                due("participants after all undos", participants(x), Math.max(0, acts - 4));
            }
        });
        sentence("if there are more than 4 states then, the oldest is dropped", () -> {
            OwnerlessCoin x = new OwnerlessCoin();
            for (int delay = 101; delay <= 140; delay++) {
                x.setDelay(delay);
            }
            for (int left = 3; left >= 0; left--) {
                due("undo()", x.undo(), left);
            }
            due("undo() with none left", x.undo(), STATE);
            due("setDelay(1) after it", x.setDelay(1), 136);
        });
        sentence("undo() removes the latest state and restores it", () -> {
            OwnerlessCoin x = new OwnerlessCoin();
            x.setFine(1);
            x.setFine(2);
            x.undo();
            due("setFine(3) after undo()", x.setFine(3), 1);
            due("undo()", x.undo(), 1);
            due("setFine(4) after undo()", x.setFine(4), 1);
            due("undo()", x.undo(), 1);
            due("undo()", x.undo(), 0);
            due("setFine(5)", x.setFine(5), 10);
        });
    }

    static void errors() {
        sentence("A call that returns an error changes nothing.", () -> {
            // what else each call refuses stands in BoundaryTest
            changesNothingAnywhere("commit(0, -1, 0)", x -> x.commit(0, -1, 0), BAD);
            changesNothingAnywhere("setThreshold(9)", x -> x.setThreshold(9), BAD);
            changesNothing("undo()", OwnerlessCoin::new, OwnerlessCoin::undo, STATE);
        });
        sentence("If several errors apply to a call, the one listed first is returned.", () -> {
            Start begun = () -> {
                OwnerlessCoin x = full();
                x.begin();
                return x;
            };
            changesNothing("addParticipant(-1) in a round of eight", begun, x -> x.addParticipant(-1), BAD);
            changesNothing("addParticipant(1) in a round of eight", begun, x -> x.addParticipant(1), STATE);
            changesNothing("addParticipant(-1) to eight", Sentences::full, x -> x.addParticipant(-1), BAD);
        });
    }

    static void calls() {
        from("What it is");
        sentence("An object is used for at most 512 calls after it has been made", () -> {
            OwnerlessCoin x = full();
            int h = 0, plays = 512 - 9 - 2;
            for (int seed = 0; seed < plays; seed++) {
                x.play(seed);
                h = mixed(h, secretsOf(seed, 8));
            }
            due("rounds() as the call before the last", x.rounds(), plays);
            due("output as the last call", x.output(plays - 1), h);
        });
        sentence("at most 512 calls", () -> {
            OwnerlessCoin x = new OwnerlessCoin();
            for (int call = 0; call < 512; call++) {
                due("undo() as call " + call, x.undo(), STATE);
            }
            OwnerlessCoin y = crowd(0, 2);
            for (int i = 0; i < 120; i++) {
                y.begin();
                y.beginOpening();
                y.undo();
                y.undo();
            }
            due("rounds() after undone ones", y.rounds(), 0);
            due("undo() of the latest act before them", y.undo(), 1);
        });
    }
}
