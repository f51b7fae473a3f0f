import java.io.IOException;
import java.util.Set;
import java.util.TreeSet;

/**
 * A test for each sentence of a promise that names a boundary case: both ends of each range and the
 * numbers just outside, what is refused and when, the error that comes first, and what is an act.
 */
public final class BoundaryTest extends Sentences {
    static final String ACT = "This is an act.";
    static final String PERSON = "- `p`: a participant";
    static final Start AMID_OPENING = () -> amidOpening(1);

    public static void main(String[] args) throws IOException {
        readDocument(args);
        p1();
        p2();
        p3();
        p4();
        p5();
        p6();
        p7();
        p8();
        p9();
        p9Refused();
        p10();
        p11();
        p12();
        p13();
        p14();
        p15();
        p16();
        p17();
        p18();
        p19();
        p20();
        p21();
        p22();
        p23();
        p24();
        p25();
        p26();
        p27();
        p28();
        p29();
        p30();
        p31();
        p32();
        p33();
        p34();
        p35();
        p36();
        p37();
        p38();
        p39();
        p40();
        due("promises with a sentence", places.size(), 40);
        finishSentences("boundaries");
    }

    // ---- participants, settings

    static void p1() {
        from("Promise 1");
        sentence("Creates a laboratory without participants, with the initial settings.", () -> {
            OwnerlessCoin x = new OwnerlessCoin();
            due("account(0, 0)", x.account(0, 0), BAD);
            due("phase()", x.phase(), 0);
            due("rounds()", x.rounds(), 0);
            due("pot()", x.pot(), 0);
            due("coins(0)", x.coins(0), 0);
            due("coins(1)", x.coins(1), 0);
            due("longestRun()", x.longestRun(), 0);
            due("undo()", x.undo(), STATE);
            due("begin()", x.begin(), STATE);
            due("setMethod(0)", x.setMethod(0), 0);
            due("setThreshold(2)", x.setThreshold(2), 2);
            due("setFine(10)", x.setFine(10), 10);
            due("setDelay(100)", x.setDelay(100), 100);
        });
        sentence("Creates a laboratory", () -> {
            // what one object does, another does not see
            OwnerlessCoin x = full(), y = new OwnerlessCoin();
            x.play(1);
            due("rounds() of another object", y.rounds(), 0);
            due("addParticipant(1) to another object", y.addParticipant(1), 0);
        });
    }

    static void p2() {
        from("Promise 2");
        sentence("- `balance`: 0 to 1000000", () -> {
            ranged("addParticipant", 0, 1000000, OwnerlessCoin::addParticipant);
            for (int balance : new int[] {0, 1, 999999, 1000000}) {
                OwnerlessCoin x = new OwnerlessCoin();
                due("addParticipant(" + balance + ")", x.addParticipant(balance), 0);
                due("balance", x.account(0, 0), balance);
            }
        });
        sentence("Returns its number", () -> {
            OwnerlessCoin x = new OwnerlessCoin();
            for (int p = 0; p < 8; p++) {
                due("addParticipant(7)", x.addParticipant(7), p);
            }
        });
        sentence("STATE if a round is going on", () -> {
            changesNothing("addParticipant(1) in the committing", () -> committing(0, 2), x -> x.addParticipant(1), STATE);
            changesNothing("addParticipant(1) in the opening", () -> opening(0, 2), x -> x.addParticipant(1), STATE);
            changesNothing("addParticipant(-1) in the opening", () -> opening(0, 2), x -> x.addParticipant(-1), BAD);
        });
        sentence("FULL if there are 8 participants", () -> {
            changesNothing("addParticipant(1) to eight", Sentences::full, x -> x.addParticipant(1), FULL);
            changesNothing("addParticipant(1) to eight in a round", () -> committing(0, 8), x -> x.addParticipant(1), STATE);
            due("addParticipant(1) to seven", crowd(0, 7).addParticipant(1), 7);
        });
        sentence(ACT, () -> {
            act("addParticipant(1)", OwnerlessCoin::new, x -> x.addParticipant(1), 0);
            act("addParticipant(1)", () -> crowd(0, 7), x -> x.addParticipant(1), 7);
        });
    }

    static void p3() {
        from("Promise 3");
        sentence(PERSON, () -> {
            participantOnly("behave", (x, p) -> x.behave(p, 0));
            due("behave(7, 1) with eight", full().behave(7, 1), 0);
        });
        sentence("- `behavior`: 0 to 3", () -> {
            ranged("behave(0, b)", 0, 3, (x, b) -> x.behave(0, b));
            changesNothingAnywhere("behave(8, 4)", x -> x.behave(8, 4), BAD);
        });
        sentence("Returns the previous behavior", () -> {
            OwnerlessCoin x = crowd(0, 2);
            int[] row = {0, 3, 3, 1, 2, 0};
            for (int i = 1; i < row.length; i++) {
                due("behave(1, " + row[i] + ")", x.behave(1, row[i]), row[i - 1]);
            }
            due("behavior of the other", x.account(0, 4), 0);
        });
        sentence(ACT, () -> {
            for (Start start : EVERYWHERE) {
                if (participants(start.make()) > 0) {
                    act("behave(0, 2)", start, x -> x.behave(0, 2), 0);
                    act("behave(0, 0), as it is", start, x -> x.behave(0, 0), 0);
                }
            }
        });
    }

    static void p4() {
        from("Promise 4");
        setting("method", 0, 2, 0, OwnerlessCoin::setMethod);
    }

    static void p5() {
        from("Promise 5");
        setting("threshold", 1, 8, 2, OwnerlessCoin::setThreshold);
    }

    static void p6() {
        from("Promise 6");
        setting("fine", 0, 1000, 10, OwnerlessCoin::setFine);
    }

    static void p7() {
        from("Promise 7");
        setting("delay", 1, 5000, 100, OwnerlessCoin::setDelay);
    }

    static void setting(String name, int low, int high, int initial, NumberCall set) {
        sentence("- `" + name + "`: " + low + " to " + high, () -> ranged("setting the " + name, low, high, set));
        sentence("Returns the previous " + name, () -> {
            OwnerlessCoin x = new OwnerlessCoin();
            int[] row = {initial, low, high, high, low + 1, high - 1, initial};
            for (int i = 1; i < row.length; i++) {
                due("setting the " + name + " " + row[i], set.of(x, row[i]), row[i - 1]);
            }
        });
        sentence("BAD if " + name + " is not in its range; STATE if a round is going on", () -> {
            for (int method = 0; method < 3; method++) {
                int m = method;
                for (int value : new int[] {low, high, initial}) {
                    changesNothing("setting it in the committing", () -> committing(m, 2), x -> set.of(x, value), STATE);
                    changesNothing("setting it in the opening", () -> opening(m, 2), x -> set.of(x, value), STATE);
                }
                changesNothing("setting it too low in the committing", () -> committing(m, 2), x -> set.of(x, low - 1), BAD);
                changesNothing("setting it too high in the opening", () -> opening(m, 2), x -> set.of(x, high + 1), BAD);
            }
        });
        sentence(ACT, () -> {
            act("setting the least " + name, OwnerlessCoin::new, x -> set.of(x, low), initial);
            act("setting the greatest " + name, () -> crowd(0, 2), x -> set.of(x, high), initial);
            act("setting the " + name + " that it is", () -> crowd(0, 2), x -> set.of(x, initial), initial);
        });
    }

    // ---- a round

    static void p8() {
        from("Promise 8");
        sentence("Returns the number of the round", () -> {
            OwnerlessCoin x = crowd(0, 2);
            for (int round = 0; round < 20; round++) {
                due("begin()", x.begin(), round);
                x.beginOpening();
            }
        });
        sentence("STATE if a round is going on", () -> {
            for (int method = 0; method < 3; method++) {
                int m = method;
                changesNothing("begin() in the committing", () -> committing(m, 3), OwnerlessCoin::begin, STATE);
                changesNothing("begin() in the opening", () -> opening(m, 3), OwnerlessCoin::begin, STATE);
            }
        });
        sentence("fewer than two participants could be members", () -> {
            changesNothing("begin() with none", OwnerlessCoin::new, OwnerlessCoin::begin, STATE);
            changesNothing("begin() with one", () -> lab(0, 100), OwnerlessCoin::begin, STATE);
            changesNothing("begin() with one that can pay", () -> lab(0, 10, 9, 0), OwnerlessCoin::begin, STATE);
            due("begin() with two that can", lab(0, 10, 9, 0, 10).begin(), 0);
            due("begin() with eight that can", full().begin(), 0);
            OwnerlessCoin x = lab(0, 0, 0);
            x.setFine(0);
            due("begin() with balance 0 and fine 0", x.begin(), 0);
        });
        sentence("or, with method 1, fewer than the threshold", () -> {
            for (int threshold = 1; threshold <= 8; threshold++) {
                for (int people = 2; people <= 8; people++) {
                    OwnerlessCoin x = crowd(1, people);
                    x.setThreshold(threshold);
                    due("begin() with threshold " + threshold + " and " + people, x.begin(), people < threshold ? STATE : 0);
                }
            }
            Start poor = () -> {
                OwnerlessCoin x = lab(1, 100, 9, 100);
                x.setThreshold(3);
                return x;
            };
            changesNothing("begin() with one that can't pay", poor, OwnerlessCoin::begin, STATE);
            for (int method = 0; method <= 2; method += 2) {
                OwnerlessCoin x = crowd(method, 2);
                x.setThreshold(8);
                due("begin() with method " + method, x.begin(), 0);
            }
        });
        sentence(ACT, () -> {
            for (int method = 0; method < 3; method++) {
                int m = method;
                act("begin()", () -> resting(m), OwnerlessCoin::begin, 1);
                act("begin()", () -> crowd(m, 2), OwnerlessCoin::begin, 0);
            }
        });
    }

    static void p9() {
        from("Promise 9");
        sentence(PERSON, () -> participantOnly("commit", (x, p) -> x.commit(p, 5, 5)));
        sentence("- `secret`: 0 to Q - 1", () -> {
            ranged("commit(0, secret, 5)", 0, Q - 1, (x, secret) -> x.commit(0, secret, 5));
            for (int method = 0; method < 3; method++) {
                for (int secret : new int[] {0, 1, 1017, 1018}) {
                    OwnerlessCoin x = crowd(method, 2);
                    x.begin();
                    due("commit(0, " + secret + ", 5)", x.commit(0, secret, 5), digest(0, secret, 5) & PUBLIC);
                    x.commit(1, 5, 6);
                    x.beginOpening();
                    due("open(0, " + secret + ", 5)", x.open(0, secret, 5), 1);
                }
            }
        });
        sentence("- `nonce`: any int", () -> {
            for (int method = 0; method < 3; method++) {
                for (int nonce : new int[] {MIN, MIN + 1, -1, 0, 1, MAX}) {
                    OwnerlessCoin x = crowd(method, 2);
                    x.begin();
                    due("commit(0, 5, " + nonce + ")", x.commit(0, 5, nonce), digest(0, 5, nonce) & PUBLIC);
                    x.commit(1, 5, 77);
                    x.beginOpening();
                    due("open(0, 5, " + nonce + ")", x.open(0, 5, nonce), 1);
                }
            }
        });
        sentence("Returns the digest's lowest 30 bits (digest & 1073741823)", () -> {
            for (int digest : new int[] {0, 1, PUBLIC, PUBLIC + 1, MAX, MIN, -1}) {
                OwnerlessCoin x = crowd(0, 2);
                x.begin();
                due("commit with digest " + digest, x.commit(1, 3, nonceFor(0, 3, digest)), digest & PUBLIC);
                due("digest(1)", x.digest(1), digest & PUBLIC);
            }
        });
        sentence(ACT, () -> {
            for (int method = 0; method < 3; method++) {
                int m = method;
                act("commit by the last", () -> amidCommitting(m), x -> commits(x, 3), digest(1, 31, 3) & PUBLIC);
            }
        });
    }

    static void p9Refused() {
        sentence("STATE if the phase is not 1", () -> {
            for (int method = 0; method < 3; method++) {
                int m = method;
                changesNothing("commit before a round", () -> resting(m), x -> x.commit(0, 5, 5), STATE);
                changesNothing("commit in the opening", () -> amidOpening(m), x -> x.commit(0, 5, 5), STATE);
            }
        });
        sentence("p is no member", () -> {
            for (int method = 0; method < 3; method++) {
                int m = method;
                changesNothing("commit by one that can't pay", () -> amidCommitting(m), x -> x.commit(4, 5, 5), STATE);
                // a member's digest: STATE is listed before COPY
                changesNothing("commit of a copy by no member", () -> amidCommitting(m), x -> x.commit(4, 1, 0), STATE);
            }
            changesNothing("commit by an expelled one", Sentences::afterExpulsion, x -> x.commit(2, 5, 5), STATE);
        });
        sentence("or p has committed", () -> {
            for (int method = 0; method < 3; method++) {
                int m = method;
                changesNothing("commit once more", () -> amidCommitting(m), x -> x.commit(0, 5, 5), STATE);
                changesNothing("commit to the same once more", () -> amidCommitting(m), x -> x.commit(0, 1, 0), STATE);
                changesNothing("commit of a copy once more", () -> amidCommitting(m), x -> x.commit(0, 11, 1), STATE);
                changesNothing("commit to 1019 once more", () -> amidCommitting(m), x -> x.commit(0, 1019, 0), BAD);
            }
        });
        sentence("COPY if another member has this digest", () -> {
            for (int method = 0; method < 3; method++) {
                int m = method, digest = digest(1, 21, 2);
                changesNothing("commit of a copy", () -> amidCommitting(m), x -> x.commit(3, 21, 2), COPY);
                changesNothing("commit of its digest", () -> amidCommitting(m), x -> x.commit(3, 0, nonceFor(1, 0, digest)), COPY);
            }
        });
    }

    static void p10() {
        from("Promise 10");
        sentence("- `p`: the member from which the share is", () -> participantOnly("spoil", (x, p) -> x.spoil(p, 0, 1)));
        sentence("- `j`: the member that has it", () -> participantOnly("spoil", (x, j) -> x.spoil(0, j, 1)));
        sentence("- `by`: 1 to Q - 1", () -> ranged("spoil(0, 1, by)", 1, Q - 1, (x, by) -> x.spoil(0, 1, by)));
        sentence("Spoils a share: it is increased by a number, modulo Q.", () -> {
            int s = at(polynomial(11, 1, 2), 1);
            // to the greatest share, over it to 0, by the least and by the greatest number
            for (int by : new int[] {1, 2, Q - 1 - s, Q - s, Q - s + 1, 1018}) {
                OwnerlessCoin x = committing(1, 2);
                due("spoil(1, 0, " + by + ")", x.spoil(1, 0, by), (s + by) % Q);
                due("share(1, 0)", x.share(1, 0), (s + by) % Q);
                due("another share", x.share(1, 1), at(polynomial(11, 1, 2), 2));
            }
            OwnerlessCoin x = committing(1, 2);
            due("spoil(1, 1, 1) of one's own", x.spoil(1, 1, 1), at(polynomial(11, 1, 2), 2) + 1);
        });
        sentence("NONE if there is no such share", () -> {
            changesNothing("spoil(0, 1, 1) without a round", () -> resting(1), x -> x.spoil(0, 1, 1), NONE);
            changesNothing("spoil(3, 0, 1) without a deal", () -> amidCommitting(1), x -> x.spoil(3, 0, 1), NONE);
            changesNothing("spoil(0, 4, 1) for no member", () -> amidCommitting(1), x -> x.spoil(0, 4, 1), NONE);
            changesNothing("spoil(4, 0, 1) from no member", () -> amidCommitting(1), x -> x.spoil(4, 0, 1), NONE);
            changesNothing("spoil(2, 0, 1) from an expelled one", Sentences::afterExpulsion, x -> x.spoil(2, 0, 1), NONE);
            changesNothing("spoil(0, 2, 1) for an expelled one", Sentences::afterExpulsion, x -> x.spoil(0, 2, 1), NONE);
            changesNothing("spoil(0, 3, 1) for a dropped one", () -> amidOpening(1), x -> x.spoil(0, 3, 1), NONE);
            for (int method = 0; method <= 2; method += 2) {
                int m = method;
                changesNothing("spoil(0, 1, 1) with method " + m, () -> amidCommitting(m), x -> x.spoil(0, 1, 1), NONE);
                changesNothing("spoil(0, 1, 1) with method " + m, () -> amidOpening(m), x -> x.spoil(0, 1, 1), NONE);
            }
        });
        sentence("BAD if p or j is no participant, or by is not in its range; NONE", () -> {
            changesNothing("spoil(0, 1, 0) without a round", () -> resting(1), x -> x.spoil(0, 1, 0), BAD);
            changesNothing("spoil(4, 5, 1)", () -> amidCommitting(1), x -> x.spoil(4, 5, 1), BAD);
            changesNothing("spoil(4, 0, 1019)", () -> amidCommitting(1), x -> x.spoil(4, 0, 1019), BAD);
        });
        sentence(ACT, () -> {
            int s = at(polynomial(1, 0, 2), 2);
            act("spoil(0, 1, 5) in the committing", () -> amidCommitting(1), x -> x.spoil(0, 1, 5), (s + 5) % Q);
            act("spoil(0, 1, 5) in the opening", () -> amidOpening(1), x -> x.spoil(0, 1, 5), (s + 5) % Q);
        });
    }

    static void p11() {
        from("Promise 11");
        sentence("- `j`: the member that complains", () -> participantOnly("complain", (x, j) -> x.complain(j, 0)));
        sentence("- `p`: the member from which the share is", () -> participantOnly("complain", (x, p) -> x.complain(0, p)));
        sentence("or both are the same", () -> {
            for (Start start : EVERYWHERE) {
                for (int p = 0; p < participants(start.make()); p++) {
                    int q = p;
                    changesNothing("complain about oneself", start, x -> x.complain(q, q), BAD);
                }
            }
        });
        sentence("STATE if the phase is not 1", () -> {
            for (int method = 0; method < 3; method++) {
                int m = method;
                changesNothing("complain(0, 1) without a round", () -> resting(m), x -> x.complain(0, 1), STATE);
                changesNothing("complain(0, 2) in the opening", () -> amidOpening(m), x -> x.complain(0, 2), STATE);
                changesNothing("complain(0, 4), no share in the opening", () -> amidOpening(m), x -> x.complain(0, 4), STATE);
            }
        });
        sentence("NONE if there is no such share", () -> {
            changesNothing("complain(0, 3) without a deal", () -> amidCommitting(1), x -> x.complain(0, 3), NONE);
            changesNothing("complain(0, 4) about no member", () -> amidCommitting(1), x -> x.complain(0, 4), NONE);
            changesNothing("complain(4, 0) by no member", () -> amidCommitting(1), x -> x.complain(4, 0), NONE);
            changesNothing("complain(0, 2) once more", Sentences::afterExpulsion, x -> x.complain(0, 2), NONE);
            changesNothing("complain(2, 0) by an expelled one", Sentences::afterExpulsion, x -> x.complain(2, 0), NONE);
            changesNothing("complain(0, 1) with method 0", () -> amidCommitting(0), x -> x.complain(0, 1), NONE);
            changesNothing("complain(0, 1) with method 2", () -> amidCommitting(2), x -> x.complain(0, 1), NONE);
        });
        sentence("Returns 1 if the share is wrong (p is expelled), 0 if it is right (j pays a fine)", () -> {
            OwnerlessCoin x = amidCommitting(1);
            due("complain(1, 2)", x.complain(1, 2), 0);
            due("balance of 1", x.account(1, 0), 90);
            due("complain(3, 2) by one that has not committed", x.complain(3, 2), 0);
            due("complain(0, 2)", x.complain(0, 2), 1);
            due("expelled", x.set(3), 4);
            due("balance of 2", x.account(2, 0), 90);
            due("balance of 0", x.account(0, 0), 100);
            // spoilt once around, the share is right again
            OwnerlessCoin y = amidCommitting(1);
            y.spoil(2, 0, 1018);
            due("complain(0, 2)", y.complain(0, 2), 0);
        });
        sentence(ACT, () -> {
            act("complain(0, 2), justly", () -> amidCommitting(1), x -> x.complain(0, 2), 1);
            act("complain(0, 1), unjustly", () -> amidCommitting(1), x -> x.complain(0, 1), 0);
            Start poor = () -> {
                OwnerlessCoin x = lab(1, 10, 100);
                x.begin();
                commits(x, 1);
                x.complain(0, 1);
                return x;
            };
            act("complain(0, 1) with nothing to pay", poor, x -> x.complain(0, 1), 0);
        });
    }

    static void p12() {
        from("Promise 12");
        sentence("Returns the number of members left", () -> {
            for (int left = 2; left <= 8; left++) {
                OwnerlessCoin x = full();
                x.begin();
                for (int p = 8 - left; p < 8; p++) {
                    commits(x, p);
                }
                due("beginOpening() with " + left, x.beginOpening(), left);
                due("members", x.set(0), 256 - (1 << 8 - left));
            }
        });
        sentence("FAILED if the round has failed by this (this is no error: the round has ended)", () -> {
            for (int method = 0; method < 3; method++) {
                for (int left = 0; left < 2; left++) {
                    OwnerlessCoin x = crowd(method, 3);
                    x.begin();
                    if (left == 1) {
                        commits(x, 2);
                    }
                    due("beginOpening() with " + left, x.beginOpening(), FAILED);
                    due("phase()", x.phase(), 0);
                    due("rounds()", x.rounds(), 1);
                    due("members at the end", x.past(0, 1), 4 * left);
                    due("opened", x.past(0, 2), 0);
                    due("contributions that were not opened", x.past(0, 3), 0);
                    due("method", x.past(0, 4), method);
                    due("output", x.output(0), 0);
                    due("withheld", x.account(2, 2), 0);
                    due("balance", x.account(2, 0), 100);
                }
            }
        });
        sentence("STATE if the phase is not 1", () -> {
            for (int method = 0; method < 3; method++) {
                int m = method;
                changesNothing("beginOpening() without a round", () -> resting(m), OwnerlessCoin::beginOpening, STATE);
                changesNothing("beginOpening() in the opening", () -> amidOpening(m), OwnerlessCoin::beginOpening, STATE);
            }
            changesNothing("beginOpening() at first", OwnerlessCoin::new, OwnerlessCoin::beginOpening, STATE);
        });
        sentence(ACT, () -> {
            for (int method = 0; method < 3; method++) {
                int m = method;
                act("beginOpening()", () -> amidCommitting(m), OwnerlessCoin::beginOpening, 3);
                act("beginOpening() that fails", () -> {
                    OwnerlessCoin x = resting(m);
                    x.begin();
                    commits(x, 3);
                    return x;
                }, OwnerlessCoin::beginOpening, FAILED);
            }
        });
    }

    static void p13() {
        from("Promise 13");
        sentence(PERSON, () -> participantOnly("open", (x, p) -> x.open(p, 1, 0)));
        sentence("- `secret`: any int", () -> {
            for (int secret : new int[] {MIN, -1, 0, 2, 1019, 1020, 1 - Q, MAX}) {
                act("open(0, " + secret + ", 0)", () -> amidOpening(0), x -> x.open(0, secret, 0), 0);
            }
        });
        sentence("- `nonce`: any int", () -> {
            for (int nonce : new int[] {MIN, -1, 1, 65536, MAX}) {
                act("open(0, 1, " + nonce + ")", () -> amidOpening(0), x -> x.open(0, 1, nonce), 0);
            }
        });
        sentence("Returns 1 if it is opened, 0 if secret and nonce are not what it committed to", () -> {
            for (int method = 0; method < 3; method++) {
                OwnerlessCoin x = amidOpening(method);
                due("open(0, 21, 2), which is another's", x.open(0, 21, 2), 0);
                due("open(0, 1, 0)", x.open(0, 1, 0), 1);
                due("opened", x.set(2), 3);
            }
        });
        sentence("STATE if the phase is not 2, p is no member, or p is opened already", () -> {
            for (int method = 0; method < 3; method++) {
                int m = method;
                changesNothing("open without a round", () -> resting(m), x -> opens(x, 0), STATE);
                changesNothing("open in the committing", () -> amidCommitting(m), x -> opens(x, 0), STATE);
                changesNothing("open by one that can't pay", () -> amidOpening(m), x -> opens(x, 4), STATE);
                changesNothing("open by one that has not committed", () -> amidOpening(m), x -> opens(x, 3), STATE);
                changesNothing("open once more", () -> amidOpening(m), x -> opens(x, 1), STATE);
                changesNothing("open once more, wrongly", () -> amidOpening(m), x -> x.open(1, -1, 0), STATE);
            }
            changesNothing("open by an expelled one", () -> {
                OwnerlessCoin x = afterExpulsion();
                x.beginOpening();
                return x;
            }, x -> opens(x, 2), STATE);
        });
        sentence("This is an act, also if it is not opened.", () -> {
            for (int method = 0; method < 3; method++) {
                int m = method;
                act("open(0, 1, 0)", () -> amidOpening(m), x -> x.open(0, 1, 0), 1);
                act("open(0, 1, 1)", () -> amidOpening(m), x -> x.open(0, 1, 1), 0);
            }
        });
    }

    static void p14() {
        from("Promise 14");
        sentence("Returns the coin, 0 or 1", () -> {
            TreeSet<Integer> coins = new TreeSet<>();
            for (int secret = 0; secret < 12; secret++) {
                OwnerlessCoin x = crowd(0, 2);
                x.begin();
                x.commit(0, secret, 1);
                x.commit(1, 2, 2);
                x.beginOpening();
                x.open(0, secret, 1);
                x.open(1, 2, 2);
                due("close() with secret " + secret, x.close(), coin(secret, 2));
                coins.add(coin(secret, 2));
            }
            due("both coins", coins.size(), 2);
        });
        sentence("FAILED if the round fails (this is no error)", () -> {
            OwnerlessCoin x = opening(1, 3);
            due("close() with none opened", x.close(), FAILED);
            due("phase()", x.phase(), 0);
            due("rounds()", x.rounds(), 1);
            due("past(0, 0)", x.past(0, 0), FAILED);
            due("past(0, 1)", x.past(0, 1), 7);
            due("past(0, 2)", x.past(0, 2), 0);
            due("past(0, 3)", x.past(0, 3), 0);
            due("withheld", x.account(2, 2), 1);
            due("the fines are paid", x.pot(), 30);
        });
        sentence("STATE if the phase is not 2", () -> {
            for (int method = 0; method < 3; method++) {
                int m = method;
                changesNothing("close() without a round", () -> resting(m), OwnerlessCoin::close, STATE);
                changesNothing("close() in the committing", () -> amidCommitting(m), OwnerlessCoin::close, STATE);
            }
            changesNothing("close() at first", OwnerlessCoin::new, OwnerlessCoin::close, STATE);
        });
        sentence(ACT, () -> {
            int h = resting(0).output(0);
            act("close()", () -> amidOpening(0), OwnerlessCoin::close, mixed(h, 0, 11, 0) & 1);
            act("close() that fails", () -> amidOpening(1), OwnerlessCoin::close, FAILED);
            act("close()", () -> amidOpening(2), OwnerlessCoin::close, mixed(h, 1, 11, 21) & 1);
        });
    }

    static void p15() {
        from("Promise 15");
        sentence("- `seed`: the seed of the generator, any int", () -> {
            for (int method = 0; method < 3; method++) {
                for (int seed : new int[] {MIN, MIN + 1, -1, 0, 1, MAX}) {
                    OwnerlessCoin x = crowd(method, 8);
                    due("play(" + seed + ")", x.play(seed), coin(secretsOf(seed, 8)));
                    due("output", x.output(0), mixed(0, secretsOf(seed, 8)));
                }
            }
        });
        sentence("Returns what close() returns, or FAILED if the opening could not begin with two members", () -> {
            OwnerlessCoin x = crowd(1, 2);
            x.behave(0, 3);
            due("play(1) with one expelled of two", x.play(1), FAILED);
            due("opened", x.past(0, 2), 0);
            due("members", x.past(0, 1), 2);
            due("rounds()", x.rounds(), 1);
            OwnerlessCoin y = crowd(1, 3);
            y.behave(0, 1);
            y.behave(1, 1);
            due("play(1) with one opened of three", y.play(1), FAILED);
            due("opened", y.past(0, 2), 1);
            due("members", y.past(0, 1), 7);
        });
        sentence("STATE as begin()", () -> {
            changesNothing("play(1) with none", OwnerlessCoin::new, x -> x.play(1), STATE);
            changesNothing("play(1) with one that can pay", () -> lab(0, 10, 9), x -> x.play(1), STATE);
            changesNothing("play(1) with fewer than the threshold", () -> {
                OwnerlessCoin x = crowd(1, 2);
                x.setThreshold(3);
                return x;
            }, x -> x.play(1), STATE);
            for (int method = 0; method < 3; method++) {
                int m = method;
                changesNothing("play(1) in the committing", () -> amidCommitting(m), x -> x.play(1), STATE);
                changesNothing("play(1) in the opening", () -> amidOpening(m), x -> x.play(1), STATE);
            }
        });
        sentence("This is one act.", () -> {
            for (int method = 0; method < 3; method++) {
                int m = method, h = resting(m).output(0);
                // both coins come
                for (int seed = 0; seed < 8; seed++) {
                    int s = seed;
                    act("play(" + seed + ")", () -> resting(m), x -> x.play(s), mixed(h, secretsOf(seed, 4)) & 1);
                }
            }
            Start cheating = () -> {
                OwnerlessCoin x = crowd(1, 2);
                x.behave(1, 3);
                return x;
            };
            act("play(9) that fails", cheating, x -> x.play(9), FAILED);
        });
    }

    // ---- the round that is going on

    static void p16() {
        from("Promise 16");
        sentence("Returns 0 to 2.", () -> {
            for (int method = 0; method < 3; method++) {
                int m = method;
                changesNothing("phase()", () -> resting(m), OwnerlessCoin::phase, 0);
                changesNothing("phase()", () -> amidCommitting(m), OwnerlessCoin::phase, 1);
                changesNothing("phase()", () -> amidOpening(m), OwnerlessCoin::phase, 2);
            }
        });
    }

    static void p17() {
        from("Promise 17");
        sentence("BAD if what is not in its range", () -> ranged("set", 0, 3, OwnerlessCoin::set));
        sentence("STATE if no round is going on", () -> {
            for (int what = 0; what <= 3; what++) {
                int w = what;
                changesNothing("set(" + w + ") at first", OwnerlessCoin::new, x -> x.set(w), STATE);
                changesNothing("set(" + w + ") after a round", () -> resting(1), x -> x.set(w), STATE);
            }
        });
        sentence("0 members, 1 members that have committed, 2 members that are opened, 3 participants that were expelled", () -> {
            int[][] committing = {{15, 7, 0, 0}, {7, 7, 2, 0}, {11, 11, 0, 4}};
            for (int what = 0; what <= 3; what++) {
                int w = what;
                for (int m = 0; m < 3; m++) {
                    int method = m;
                    changesNothing("set(" + w + ")", () -> amidCommitting(method), x -> x.set(w), committing[0][w]);
                    changesNothing("set(" + w + ")", () -> amidOpening(method), x -> x.set(w), committing[1][w]);
                }
                changesNothing("set(" + w + ")", Sentences::afterExpulsion, x -> x.set(w), committing[2][w]);
            }
            OwnerlessCoin x = opening(0, 8);
            for (int p = 0; p < 8; p++) {
                opens(x, p);
            }
            for (int what = 0; what < 4; what++) {
                due("set(" + what + ") of eight", x.set(what), what < 3 ? 255 : 0);
            }
            x.close();
            x.begin();
            due("set(0) of the next round", x.set(0), 255);
            due("set(1) of the next round", x.set(1), 0);
            due("set(2) of the next round", x.set(2), 0);
            OwnerlessCoin y = afterExpulsion();
            y.beginOpening();
            due("set(3) in the opening", y.set(3), 4);
            y.close();
            y.begin();
            due("set(3) of the next round", y.set(3), 0);
        });
    }

    static void p18() {
        from("Promise 18");
        sentence(PERSON, () -> participantOnly("digest", OwnerlessCoin::digest));
        sentence("Returns digest & 1073741823", () -> {
            for (int method = 0; method < 3; method++) {
                int m = method;
                for (int p = 0; p < 3; p++) {
                    int q = p, due = digest(1, 10 * p + 1, p) & PUBLIC;
                    changesNothing("digest(" + p + ")", () -> amidCommitting(m), x -> x.digest(q), due);
                    changesNothing("digest(" + p + ")", () -> amidOpening(m), x -> x.digest(q), due);
                }
            }
        });
        sentence("NONE if no round is going on, p is no member, or p has not committed", () -> {
            for (int method = 0; method < 3; method++) {
                int m = method;
                changesNothing("digest(0) after a round", () -> resting(m), x -> x.digest(0), NONE);
                changesNothing("digest(4) of no member", () -> amidCommitting(m), x -> x.digest(4), NONE);
                changesNothing("digest(3) of one that has not committed", () -> amidCommitting(m), x -> x.digest(3), NONE);
                changesNothing("digest(3) of the same in the opening", () -> amidOpening(m), x -> x.digest(3), NONE);
            }
            changesNothing("digest(2) of an expelled one", Sentences::afterExpulsion, x -> x.digest(2), NONE);
        });
    }

    interface ShareCall {
        long of(OwnerlessCoin x, int p, int j);
    }

    /** What share() and isRight() refuse. */
    static void sharesRefused(String name, ShareCall f) {
        sentence("- `p`: the member from which it is", () -> participantOnly(name, (x, p) -> f.of(x, p, 0)));
        sentence("- `j`: the member that has it", () -> participantOnly(name, (x, j) -> f.of(x, 0, j)));
        sentence("NONE", () -> {
            changesNothing(name + "(0, 1) after a round", () -> resting(1), x -> f.of(x, 0, 1), NONE);
            for (int method = 0; method <= 2; method += 2) {
                int m = method;
                changesNothing(name + "(0, 1) with method " + m, () -> amidCommitting(m), x -> f.of(x, 0, 1), NONE);
                changesNothing(name + "(0, 1) with method " + m, () -> amidOpening(m), x -> f.of(x, 0, 1), NONE);
            }
            changesNothing(name + "(4, 0) from no member", () -> amidCommitting(1), x -> f.of(x, 4, 0), NONE);
            changesNothing(name + "(0, 4) for no member", () -> amidCommitting(1), x -> f.of(x, 0, 4), NONE);
            changesNothing(name + "(3, 0) without a deal", () -> amidCommitting(1), x -> f.of(x, 3, 0), NONE);
            changesNothing(name + "(0, 3) for a dropped one", () -> amidOpening(1), x -> f.of(x, 0, 3), NONE);
            changesNothing(name + "(2, 0) from an expelled one", Sentences::afterExpulsion, x -> f.of(x, 2, 0), NONE);
            changesNothing(name + "(0, 2) for an expelled one", Sentences::afterExpulsion, x -> f.of(x, 0, 2), NONE);
        });
    }

    static void p19() {
        from("Promise 19");
        sharesRefused("share", OwnerlessCoin::share);
        sentence("Returns the share that a member has from another member (or from itself).", () -> {
            for (int p = 0; p < 3; p++) {
                for (int j = 0; j < 3; j++) {
                    int from = p, to = j, spoilt = p == 2 && j == 0 ? 1 : 0;
                    int due = (at(polynomial(10 * p + 1, p, 2), j + 1) + spoilt) % Q;
                    changesNothing("share(" + p + ", " + j + ")", () -> amidCommitting(1), x -> x.share(from, to), due);
                    changesNothing("share(" + p + ", " + j + ")", () -> amidOpening(1), x -> x.share(from, to), due);
                }
            }
            due("share(0, 3) of one that has not committed", amidCommitting(1).share(0, 3), at(polynomial(1, 0, 2), 4));
        });
    }

    static void p20() {
        from("Promise 20");
        sharesRefused("isRight", OwnerlessCoin::isRight);
        sentence("Returns 1 if it is right, 0 if it is wrong", () -> {
            for (int p = 0; p < 3; p++) {
                for (int j = 0; j < 3; j++) {
                    int from = p, to = j, due = p == 2 && j == 0 ? 0 : 1;
                    changesNothing("isRight(" + p + ", " + j + ")", () -> amidCommitting(1), x -> x.isRight(from, to), due);
                    changesNothing("isRight(" + p + ", " + j + ")", () -> amidOpening(1), x -> x.isRight(from, to), due);
                }
            }
        });
    }

    static void p21() {
        from("Promise 21");
        sentence(PERSON, () -> participantOnly("check", (x, p) -> x.check(p, 0)));
        sentence("- `k`: its index, 0 or more", () -> {
            for (int k : new int[] {-1, -2, MIN}) {
                changesNothingAnywhere("check(0, " + k + ")", x -> x.check(0, k), BAD);
            }
        });
        sentence("NONE if there is no such number (as share(), or k is not less than the threshold)", () -> {
            for (int threshold = 1; threshold <= 8; threshold++) {
                OwnerlessCoin x = committing(1, 8, threshold);
                int[] a = polynomial(71, 7, threshold);
                for (int k = 0; k <= 9; k++) {
                    due("check(7, " + k + ") with threshold " + threshold, x.check(7, k), k < threshold ? power(4, a[k], P) : NONE);
                }
                due("check(7, MAX)", x.check(7, MAX), NONE);
            }
            changesNothing("check(0, 0) after a round", () -> resting(1), x -> x.check(0, 0), NONE);
            changesNothing("check(0, 0) with method 0", () -> amidCommitting(0), x -> x.check(0, 0), NONE);
            changesNothing("check(0, 0) with method 2", () -> amidOpening(2), x -> x.check(0, 0), NONE);
            changesNothing("check(3, 0) without a deal", () -> amidCommitting(1), x -> x.check(3, 0), NONE);
            changesNothing("check(4, 0) of no member", () -> amidCommitting(1), x -> x.check(4, 0), NONE);
            changesNothing("check(2, 0) of an expelled one", Sentences::afterExpulsion, x -> x.check(2, 0), NONE);
        });
        sentence("Returns ck of p", () -> {
            for (int secret : new int[] {0, 1, 509, 1018}) {
                OwnerlessCoin x = crowd(1, 2);
                x.begin();
                // the coefficient of the second is 0 and 1018
                x.commit(0, secret, seedDrawing(0));
                x.commit(1, secret, seedDrawing(1018));
                due("check(0, 0)", x.check(0, 0), power(4, secret, P));
                due("check(0, 1)", x.check(0, 1), 1);
                due("check(1, 1)", x.check(1, 1), power(4, 1018, P));
                x.spoil(1, 0, 7);
                due("check(1, 1) after spoil()", x.check(1, 1), power(4, 1018, P));
            }
        });
    }

    static void p22() {
        from("Promise 22");
        sentence("BAD if there is no such participant", () -> participantOnly("recover", (x, p) -> x.recover(p, 3)));
        sentence("- `set`: a set of participants, bit k for participant k, 0 to 255", () -> {
            ranged("recover(0, set)", 0, 255, (x, set) -> x.recover(0, set));
            due("recover(0, 255) of eight", committing(1, 8).recover(0, 255), 1);
            due("recover(7, 192) of eight", committing(1, 8).recover(7, 192), 71);
        });
        sentence("NONE if there are fewer members in the set than the threshold, or no shares from p", () -> {
            for (int threshold = 1; threshold <= 4; threshold++) {
                OwnerlessCoin x = committing(1, 4, threshold);
                for (int set = 0; set < 16; set++) {
                    int due = Integer.bitCount(set) < threshold ? NONE : 11;
                    due("recover(1, " + set + ") with threshold " + threshold, x.recover(1, set), due);
                    due("recover(1, 240 + " + set + ")", x.recover(1, 240 + set), due);
                }
            }
            changesNothing("recover(0, 17) with no member in it", () -> amidCommitting(1), x -> x.recover(0, 17), NONE);
            changesNothing("recover(0, 9) with a dropped one in it", () -> amidOpening(1), x -> x.recover(0, 9), NONE);
            changesNothing("recover(0, 5) with an expelled one in it", Sentences::afterExpulsion, x -> x.recover(0, 5), NONE);
            changesNothing("recover(2, 11) of an expelled one", Sentences::afterExpulsion, x -> x.recover(2, 11), NONE);
            changesNothing("recover(3, 7) without a deal", () -> amidCommitting(1), x -> x.recover(3, 7), NONE);
            changesNothing("recover(4, 7) of no member", () -> amidCommitting(1), x -> x.recover(4, 7), NONE);
            changesNothing("recover(0, 7) after a round", () -> resting(1), x -> x.recover(0, 7), NONE);
            changesNothing("recover(0, 7) with method 0", () -> amidCommitting(0), x -> x.recover(0, 7), NONE);
            changesNothing("recover(0, 7) with method 2", () -> amidOpening(2), x -> x.recover(0, 7), NONE);
        });
        sentence("of the members in a set, the threshold ones with the smallest numbers are used", () -> {
            // with s0 for 0 (x = 1) and s3 for 3 (x = 4), the line's value at 0 is (4 * s0 - s3) / 3
            OwnerlessCoin x = committing(1, 5);
            x.spoil(0, 3, 9);
            int s0 = x.share(0, 0), s3 = x.share(0, 3), third = power(3, Q - 2, Q);
            int due = Math.floorMod((4 * s0 - s3) * third, Q);
            due("recover(0, 9)", x.recover(0, 9), due);
            due("recover(0, 25)", x.recover(0, 25), due);
            due("recover(0, 11)", x.recover(0, 11), 1);
            due("recover(0, 31)", x.recover(0, 31), 1);
            changesNothing("recover(2, 7)", () -> amidOpening(1), y -> y.recover(2, 7), amidOpening(1).recover(2, 3));
        });
        sentence("Returns the value, 0 to Q - 1", () -> {
            for (int threshold = 1; threshold <= 8; threshold++) {
                for (int secret : new int[] {0, 1018}) {
                    OwnerlessCoin x = crowd(1, 8);
                    x.setThreshold(threshold);
                    x.begin();
                    x.commit(5, secret, MIN);
                    due("recover(5, 255)", x.recover(5, 255), secret);
                }
            }
            OwnerlessCoin x = committing(1, 2, 1);
            due("spoil(0, 1, 1018)", x.spoil(0, 1, 1018), 0);
            due("recover(0, 2)", x.recover(0, 2), 0);
            due("spoil(0, 1, 1018)", x.spoil(0, 1, 1018), 1018);
            due("recover(0, 2)", x.recover(0, 2), 1018);
        });
    }

    static void p23() {
        from("Promise 23");
        sentence(PERSON, () -> {
            participantOnly("lock(p, 0)", (x, p) -> x.lock(p, 0));
            participantOnly("lock(p, 1)", (x, p) -> x.lock(p, 1));
        });
        sentence("- `what`: 0 the base, 1 the lock number", () -> {
            ranged("lock(0, what)", 0, 1, (x, what) -> x.lock(0, what));
            for (int p = 0; p < 3; p++) {
                int q = p, base = baseOf(p), number = (10 * p + 1 + slowly(base, 100)) % Q;
                changesNothing("lock(p, 0)", () -> amidCommitting(2), x -> x.lock(q, 0), base);
                changesNothing("lock(p, 1)", () -> amidCommitting(2), x -> x.lock(q, 1), number);
                changesNothing("lock(p, 0)", () -> amidOpening(2), x -> x.lock(q, 0), base);
                changesNothing("lock(p, 1)", () -> amidOpening(2), x -> x.lock(q, 1), number);
            }
        });
        sentence("NONE if there is no lock (no round is going on, the method is not 2, p is no member, or p has not committed)", () -> {
            for (int what = 0; what < 2; what++) {
                int w = what;
                changesNothing("lock(0, w) after a round", () -> resting(2), x -> x.lock(0, w), NONE);
                changesNothing("lock(0, w) with method 0", () -> amidCommitting(0), x -> x.lock(0, w), NONE);
                changesNothing("lock(0, w) with method 1", () -> amidOpening(1), x -> x.lock(0, w), NONE);
                changesNothing("lock(4, w) of no member", () -> amidCommitting(2), x -> x.lock(4, w), NONE);
                changesNothing("lock(3, w) of one that has not committed", () -> amidCommitting(2), x -> x.lock(3, w), NONE);
                changesNothing("lock(3, w) of a dropped one", () -> amidOpening(2), x -> x.lock(3, w), NONE);
            }
        });
    }

    // ---- coalitions

    interface CoalitionCall {
        long of(OwnerlessCoin x, int coalition);
    }

    /** What results(), canForce() and bias() refuse. */
    static void coalitionsRefused(String name, CoalitionCall f) {
        sentence("- `coalition`: the set, bit k for participant k, 0 to 255", () -> {
            ranged(name, 0, 255, f::of);
            due(name + " of all eight", f.of(opening(2, 8), 255) >= 0 ? 1 : 0, 1);
        });
        sentence("STATE", () -> {
            changesNothing(name + " of none at first", OwnerlessCoin::new, x -> f.of(x, 0), STATE);
            for (int method = 0; method < 3; method++) {
                int m = method;
                changesNothing(name + " of none after a round", () -> resting(m), x -> f.of(x, 0), STATE);
                changesNothing(name + " of none in the committing", () -> amidCommitting(m), x -> f.of(x, 0), STATE);
                for (int coalition : new int[] {2, 3, 7, 8, 9, 16, 32, 128, 255}) {
                    changesNothing(name + " of " + coalition, () -> amidOpening(m), x -> f.of(x, coalition), STATE);
                }
                for (int coalition : new int[] {0, 1, 4, 5}) {
                    long answer = f.of(amidOpening(m), coalition);
                    due(name + " of " + coalition + " is no error", answer >= 0 ? 1 : 0, 1);
                    changesNothing(name + " of " + coalition, () -> amidOpening(m), x -> f.of(x, coalition), answer);
                }
            }
        });
    }

    static void p24() {
        from("Promise 24");
        coalitionsRefused("results", OwnerlessCoin::results);
        sentence("Returns the number of results, at least 1", () -> {
            for (int method = 0; method < 3; method++) {
                due("results(0) of eight with method " + method, opening(method, 8).results(0), 1);
            }
            Set<Integer> outputs = new TreeSet<>();
            for (int choice = 0; choice < 256; choice++) {
                int h = 0;
                for (int p = 0; p < 8; p++) {
                    h = mix(h, (choice >> p & 1) * (10 * p + 1));
                }
                outputs.add(h);
            }
            due("results(255) with method 0", opening(0, 8).results(255), outputs.size());
            due("results(255) with method 2", opening(2, 8).results(255), 1);
            // secrets 0 are the same, opened or not
            OwnerlessCoin x = crowd(0, 3);
            x.begin();
            for (int p = 0; p < 3; p++) {
                x.commit(p, 0, p);
            }
            x.beginOpening();
            due("results(7) with secrets 0", x.results(7), 1);
        });
        sentence("(all failures count as one result)", () -> {
            for (int threshold = 1; threshold <= 8; threshold++) {
                OwnerlessCoin x = committing(1, 8, threshold);
                x.beginOpening();
                for (int size = 0; size <= 8; size++) {
                    // if all of the coalition withhold, the others are as many as open
                    int due = size > 0 && 8 - size < threshold ? 2 : 1;
                    due("results of " + size + " with threshold " + threshold, x.results((1 << size) - 1), due);
                }
            }
            OwnerlessCoin y = opening(1, 3);
            y.spoil(0, 1, 1);
            due("results(1) with one right share", y.results(1), 2);
            due("results(2) with right ones", y.results(2), 1);
        });
    }

    static void p25() {
        from("Promise 25");
        coalitionsRefused("canForce(c, 0)", (x, c) -> x.canForce(c, 0));
        coalitionsRefused("canForce(c, 1)", (x, c) -> x.canForce(c, 1));
        sentence("- `coin`: 0 or 1", () -> {
            ranged("canForce(0, coin)", 0, 1, (x, coin) -> x.canForce(0, coin));
            changesNothing("canForce(8, 2)", () -> amidOpening(0), x -> x.canForce(8, 2), BAD);
            changesNothing("canForce(0, 2) without a round", () -> resting(0), x -> x.canForce(0, 2), BAD);
        });
        sentence("Returns 1 if it can, 0 if not", () -> {
            for (int method = 0; method < 3; method++) {
                OwnerlessCoin x = opening(method, 3);
                int all = coin(1, 11, 21);
                due("canForce(0, coin)", x.canForce(0, all), 1);
                due("canForce(0, the other)", x.canForce(0, 1 - all), 0);
                boolean both = method == 0 && coin(1, 11, 0) != all;
                due("canForce(4, the other)", x.canForce(4, 1 - all), both ? 1 : 0);
                // the whole coalition may fail the round with shares: this is no coin
                int other = 0;
                for (int choice = 0; choice < 8 && method == 0; choice++) {
                    other |= coin(choice & 1, (choice >> 1 & 1) * 11, (choice >> 2) * 21) == 1 - all ? 1 : 0;
                }
                due("canForce(7, the other)", x.canForce(7, 1 - all), other);
                due("canForce(7, coin)", x.canForce(7, all), 1);
            }
        });
    }

    static void p26() {
        from("Promise 26");
        coalitionsRefused("bias(c, 1)", (x, c) -> x.bias(c, 1));
        sentence("- `bits`: 1 to 4", () -> {
            ranged("bias(0, bits)", 1, 4, (x, bits) -> x.bias(0, bits));
            changesNothing("bias(8, 5)", () -> amidOpening(0), x -> x.bias(8, 5), BAD);
            changesNothing("bias(8, 4)", () -> amidOpening(0), x -> x.bias(8, 4), STATE);
            OwnerlessCoin x = opening(0, 2);
            for (int bits = 1; bits <= 4; bits++) {
                due("bias(2, " + bits + ")", x.bias(2, bits), forcedByLast(1 << bits, 0, 11));
            }
        });
        sentence("FULL if bits times the number of members outside the coalition is greater than 12", () -> {
            OwnerlessCoin x = opening(0, 8);
            for (int bits = 1; bits <= 4; bits++) {
                for (int outside = 0; outside <= 8; outside++) {
                    int answer = x.bias(255 & ~((1 << outside) - 1), bits);
                    if (bits * outside > 12) {
                        due("bias with " + outside + " outside and " + bits + " bits", answer, FULL);
                    } else {
                        due("bias with " + outside + " outside and " + bits + " bits is no error", answer >= 0 ? 1 : 0, 1);
                        due("and at most all", answer <= 1 << bits * outside ? 1 : 0, 1);
                    }
                }
            }
            changesNothing("bias(0, 2) of eight", () -> opening(0, 8), y -> y.bias(0, 2), FULL);
            opens(x, 0);
            due("bias(254, 4) with an opened one outside", x.bias(254, 4) >= 0 ? 1 : 0, 1);
            due("bias(240, 4) with an opened one outside", x.bias(240, 4), FULL);
            due("bias(241, 4), STATE before FULL", x.bias(241, 4), STATE);
            // only members count: three of eight have committed
            OwnerlessCoin y = full();
            y.begin();
            for (int p = 0; p < 3; p++) {
                commits(y, p);
            }
            y.beginOpening();
            due("bias(0, 4) with three members", y.bias(0, 4), forcedByThree(16));
        });
        sentence("the secrets of all members outside the coalition could be any numbers from 0 to 2^bits - 1", () -> {
            OwnerlessCoin x = opening(0, 2);
            for (int bits = 1; bits <= 4; bits++) {
                int sum = 0;
                for (int s = 0; s < 1 << bits; s++) {
                    for (int t = 0; t < 1 << bits; t++) {
                        sum += coin(s, t);
                    }
                }
                due("bias(0, " + bits + ")", x.bias(0, bits), sum);
            }
            due("bias(3, 4) with none outside", x.bias(3, 4), coin(0, 0) | coin(0, 11) | coin(1, 0) | coin(1, 11));
        });
        sentence("(their shares being right as they are now, and the secrets of the coalition being those that it committed to)", () -> {
            for (int method = 1; method < 3; method++) {
                OwnerlessCoin x = opening(method, 3);
                int sum = 0;
                for (int s = 0; s < 16; s++) {
                    sum += coin(1, s, 21);
                }
                due("bias(5, 4) with method " + method, x.bias(5, 4), sum);
                x.spoil(0, 1, 1);
                x.spoil(1, 0, 1);
                due("bias(5, 4) after spoil()", x.bias(5, 4), sum);
                due("bias(5, 1)", x.bias(5, 1), coin(1, 0, 21) + coin(1, 1, 21));
            }
        });
    }

    /** How many numbers below a bound, before one of two last contributions, make coin 1. */
    static int forcedByLast(int bound, int withheld, int opened) {
        int sum = 0;
        for (int s = 0; s < bound; s++) {
            sum += coin(s, withheld) | coin(s, opened);
        }
        return sum;
    }

    /** How many triples of numbers below a bound make coin 1. */
    static int forcedByThree(int bound) {
        int sum = 0;
        for (int s = 0; s < bound * bound * bound; s++) {
            sum += coin(s % bound, s / bound % bound, s / bound / bound);
        }
        return sum;
    }

    // ---- slow computations

    interface TaskCall {
        long of(OwnerlessCoin x, int b, int d);
    }

    static void taskRanges(String name, int highBase, int highDelay, TaskCall f) {
        sentence("- `b`: 2 to " + highBase, () -> {
            ranged(name + "(b, 5)", 2, highBase, (x, b) -> f.of(x, b, 5));
            due(name + "(2, 0) is no error", f.of(new OwnerlessCoin(), 2, 0) >= 0 ? 1 : 0, 1);
            due(name + " of the greatest is no error", f.of(new OwnerlessCoin(), highBase, 0) >= 0 ? 1 : 0, 1);
        });
        sentence("- `d`: 0 to " + highDelay, () -> {
            ranged(name + "(5, d)", 0, highDelay, (x, d) -> f.of(x, 5, d));
            changesNothingAnywhere(name + "(1, -1)", x -> f.of(x, 1, -1), BAD);
        });
    }

    /** The answer stands at both ends of both ranges, and asking changes nothing. */
    static void taskAnswers(String name, int[] bases, int[] delays, TaskCall f, TaskCall due) {
        for (int b : bases) {
            for (int d : delays) {
                long want = due.of(null, b, d);
                due(name + "(" + b + ", " + d + ")", f.of(new OwnerlessCoin(), b, d), want);
                changesNothing(name + "(" + b + ", " + d + ")", AMID_OPENING, x -> f.of(x, b, d), want);
            }
        }
    }

    static final int[] BASES = {2, 3, 7906, 7907, 7919, 99999, 100000};
    static final int[] DELAYS = {0, 1, 2, 4999, 5000};

    static void p27() {
        from("Promise 27");
        taskRanges("slow", 100000, 5000, OwnerlessCoin::slow);
        sentence("Returns the value, 0 to N - 1", () ->
                taskAnswers("slow", BASES, DELAYS, OwnerlessCoin::slow, (x, b, d) -> slowly(b, d)));
    }

    static void p28() {
        from("Promise 28");
        taskRanges("quick", 7906, 1000000000, OwnerlessCoin::quick);
        sentence("Returns slow(b, d) for greater delays, computed quickly with the factors of N.", () -> {
            int[] bases = {2, 3, 7905, 7906};
            taskAnswers("quick", bases, DELAYS, OwnerlessCoin::quick, (x, b, d) -> slowly(b, d));
            int[] delays = {5001, 65535, 65536, 999999999, 1000000000};
            taskAnswers("quick", bases, delays, OwnerlessCoin::quick, (x, b, d) -> quickly(b, d));
        });
    }

    static void p29() {
        from("Promise 29");
        taskRanges("prime", 100000, 5000, OwnerlessCoin::prime);
        sentence("Returns the prime", () ->
                taskAnswers("prime", BASES, DELAYS, OwnerlessCoin::prime, (x, b, d) -> primeFor(b, slowly(b, d))));
    }

    static void p30() {
        from("Promise 30");
        taskRanges("proof", 100000, 5000, OwnerlessCoin::proof);
        sentence("Returns the proof, 0 to N - 1", () ->
                taskAnswers("proof", BASES, DELAYS, OwnerlessCoin::proof, (x, b, d) -> proofFor(b, d)));
    }

    static void p31() {
        from("Promise 31");
        taskRanges("accepts", 100000, 1000000000, (x, b, d) -> x.accepts(b, d, 1, 1));
        sentence("- `y`: the value, 0 to N - 1", () -> {
            ranged("accepts(2, 0, y, 1)", 0, N - 1, (x, y) -> x.accepts(2, 0, y, 1));
            due("accepts(2, 0, 0, 0)", new OwnerlessCoin().accepts(2, 0, 0, 0), 1);
            due("accepts(2, 0, N - 1, 0)", new OwnerlessCoin().accepts(2, 0, N - 1, 0), 0);
        });
        sentence("- `proof`: the proof, 0 to N - 1", () -> {
            ranged("accepts(2, 0, 2, proof)", 0, N - 1, (x, proof) -> x.accepts(2, 0, 2, proof));
            due("accepts(2, 0, 2, 0)", new OwnerlessCoin().accepts(2, 0, 2, 0), 0);
            due("accepts(2, 0, N - 2, N - 1)", new OwnerlessCoin().accepts(2, 0, N - 2, N - 1), 1);
        });
        sentence("Returns 1 if it is accepted, 0 if not", () -> {
            for (int b : BASES) {
                for (int d : DELAYS) {
                    due("accepts of slow and proof", new OwnerlessCoin().accepts(b, d, slowly(b, d), proofFor(b, d)), 1);
                }
            }
            for (int b : new int[] {2, 7906, 7908, 100000}) {
                for (int d : new int[] {0, 1, 5000, 5001, 999999999, 1000000000}) {
                    int y = quickly(b, d), w = quickProof(b, d);
                    changesNothing("accepts(" + b + ", " + d + ")", AMID_OPENING, x -> x.accepts(b, d, y, w), 1);
                    changesNothing("accepts another value", AMID_OPENING, x -> x.accepts(b, d, (y + 1) % N, w), 0);
                    changesNothing("accepts another proof", AMID_OPENING, x -> x.accepts(b, d, y, (w + 1) % N), 0);
                }
            }
        });
    }

    // ---- balances, history

    static void p32() {
        from("Promise 32");
        sentence(PERSON, () -> participantOnly("account", (x, p) -> x.account(p, 0)));
        sentence("BAD if there is no such participant, or what is not in its range", () ->
                ranged("account(0, what)", 0, 4, (x, what) -> x.account(0, what)));
        sentence("1 the number of rounds in which it was opened when they were closed, 2 in which it withheld, 3 in which it was expelled", () -> {
            OwnerlessCoin x = opening(1, 3);
            opens(x, 0);
            accountsAre(x, 0, 100, 0, 0, 0);
            x.close();
            accountsAre(x, 0, 100, 1, 0, 0);
            accountsAre(x, 1, 90, 0, 1, 0);
            x.behave(2, 3);
            x.play(1);
            // two fines of the failed round and that of the expelled one are shared by two
            accountsAre(x, 0, 115, 2, 0, 0);
            accountsAre(x, 1, 105, 1, 1, 0);
            accountsAre(x, 2, 80, 0, 1, 1);
            x.begin();
            x.beginOpening();
            accountsAre(x, 0, 115, 2, 0, 0);
            x.begin();
            accountsAre(x, 2, 80, 0, 1, 1);
            for (int p = 0; p < 3; p++) {
                commits(x, p);
            }
            x.spoil(1, 2, 4);
            x.complain(2, 1);
            accountsAre(x, 1, 95, 1, 1, 1);
            x.beginOpening();
            x.close();
            accountsAre(x, 1, 95, 1, 1, 1);
            accountsAre(x, 2, 70, 0, 2, 1);
        });
        sentence("4 the behavior", () -> {
            OwnerlessCoin x = full();
            for (int p = 0; p < 8; p++) {
                x.behave(p, p % 4);
            }
            for (int p = 0; p < 8; p++) {
                due("account(" + p + ", 4)", x.account(p, 4), p % 4);
            }
        });
    }

    static void accountsAre(OwnerlessCoin x, int p, int... numbers) {
        for (int what = 0; what < numbers.length; what++) {
            due("account(" + p + ", " + what + ")", x.account(p, what), numbers[what]);
        }
    }

    static void p33() {
        from("Promise 33");
        sentence("Returns the pot.", () -> {
            changesNothing("pot() at first", OwnerlessCoin::new, OwnerlessCoin::pot, 0);
            changesNothing("pot() after a fine", Sentences::afterExpulsion, OwnerlessCoin::pot, 10);
            OwnerlessCoin x = lab(0, 1000000, 1000000, 1000000);
            x.setFine(1000);
            for (int p = 0; p < 3; p++) {
                x.behave(p, 1);
            }
            for (int round = 1; round <= 100; round++) {
                x.play(round);
                due("pot() of silent ones", x.pot(), 3000 * round);
            }
            x.behave(1, 0);
            x.play(0);
            due("pot() after one has opened", x.pot(), 0);
            due("its balance", x.account(1, 0), 1000000 - 100000 + 302000);
        });
    }

    static void p34() {
        from("Promise 34");
        sentence("Returns the number of rounds that have ended.", () -> {
            changesNothing("rounds() at first", OwnerlessCoin::new, OwnerlessCoin::rounds, 0);
            changesNothing("rounds() in the committing", () -> amidCommitting(0), OwnerlessCoin::rounds, 1);
            changesNothing("rounds() in the opening", () -> amidOpening(0), OwnerlessCoin::rounds, 1);
            OwnerlessCoin x = crowd(0, 2);
            for (int round = 1; round <= 40; round++) {
                x.play(round);
                due("rounds()", x.rounds(), round);
            }
            x.begin();
            x.beginOpening();
            due("rounds() after a failed one", x.rounds(), 41);
        });
    }

    static void p35() {
        from("Promise 35");
        sentence("BAD if round is negative or what is not in its range", () -> {
            for (int round : new int[] {-1, -16, -17, MIN}) {
                changesNothingAnywhere("past(" + round + ", 0)", x -> x.past(round, 0), BAD);
            }
            ranged("past(0, what)", 0, 4, (x, what) -> x.past(0, what));
            changesNothingAnywhere("past(99, 5)", x -> x.past(99, 5), BAD);
            changesNothingAnywhere("past(MAX, -1)", x -> x.past(MAX, -1), BAD);
        });
        sentence("NONE if there is no such round, or it is not kept", () -> {
            changesNothing("past(0, 0) at first", OwnerlessCoin::new, x -> x.past(0, 0), NONE);
            changesNothing("past(1, 0) while it is going on", () -> amidOpening(0), x -> x.past(1, 0), NONE);
            changesNothingAnywhere("past(MAX, 4)", x -> x.past(MAX, 4), NONE);
            OwnerlessCoin x = crowd(0, 2);
            for (int rounds = 1; rounds <= 34; rounds++) {
                x.play(rounds);
                due("past of the 16th before the end", x.past(Math.max(0, rounds - 16), 1), 3);
                due("past of the 17th before the end", x.past(Math.max(0, rounds - 17), 1), rounds < 17 ? 3 : NONE);
                due("past of the latest", x.past(rounds - 1, 1), 3);
                due("past of the next", x.past(rounds, 1), NONE);
            }
        });
        sentence("0 its coin (FAILED if it failed), 1 its members at the end as a set, 2 the number of members that were opened, "
                + "3 the number of contributions that were not opened (0 if it failed), 4 the method", () -> {
            for (int method = 0; method < 3; method++) {
                OwnerlessCoin x = amidOpening(method);
                int h = x.output(0);
                x.close();
                int[] contributions = method == 0 ? new int[] {0, 11, 0} : new int[] {1, 11, 21};
                // with shares one opened is too few
                pastIs(x, 1, method == 1 ? FAILED : mixed(h, contributions) & 1, 7, 1, method == 1 ? 0 : 2, method);
                x.setMethod((method + 1) % 3);
                due("past(1, 4) after another setting", x.past(1, 4), method);
            }
            OwnerlessCoin x = opening(0, 8);
            x.close();
            pastIs(x, 0, coin(0, 0, 0, 0, 0, 0, 0, 0), 255, 0, 8, 0);
            x.play(1);
            pastIs(x, 1, x.output(1) & 1, 255, 8, 0, 0);
            OwnerlessCoin y = afterExpulsion();
            y.beginOpening();
            opens(y, 0);
            opens(y, 1);
            y.close();
            pastIs(y, 0, coin(1, 11, 31), 11, 2, 1, 1);
        });
    }

    static void pastIs(OwnerlessCoin x, int round, int... numbers) {
        for (int what = 0; what < numbers.length; what++) {
            due("past(" + round + ", " + what + ")", x.past(round, what), numbers[what]);
        }
    }

    static void p36() {
        from("Promise 36");
        sentence("0 if there is no such round, it is not kept, or it failed", () -> {
            for (int round : new int[] {-1, -16, MIN, 2, 99, MAX}) {
                changesNothingAnywhere("output(" + round + ")", x -> x.output(round), 0);
            }
            changesNothing("output(0) at first", OwnerlessCoin::new, x -> x.output(0), 0);
            changesNothing("output(1) while it is going on", () -> amidOpening(0), x -> x.output(1), 0);
            OwnerlessCoin x = crowd(0, 2);
            x.play(5);
            int h = mixed(0, secretsOf(5, 2));
            x.begin();
            x.beginOpening();
            due("output(1) of a failed round", x.output(1), 0);
            for (int rounds = 3; rounds <= 16; rounds++) {
                x.play(rounds);
                due("output(0)", x.output(0), h);
            }
            x.play(17);
            due("output(0) after 17 rounds", x.output(0), 0);
            x.undo();
            due("output(0) after undo()", x.output(0), h);
            OwnerlessCoin y = opening(1, 3);
            y.close();
            due("output(0) of a round that failed in the end", y.output(0), 0);
        });
    }

    static void p37() {
        from("Promise 37");
        sentence("- `coin`: 0 or 1", () -> ranged("coins", 0, 1, OwnerlessCoin::coins));
        sentence("of all that have ended", () -> {
            OwnerlessCoin x = crowd(0, 2);
            int[] count = new int[2];
            int h = 0;
            // more than 16 rounds: those that are not kept count as well, failed ones do not
            for (int seed = 0; seed < 40; seed++) {
                x.play(seed);
                h = mixed(h, secretsOf(seed, 2));
                count[h & 1]++;
                if (seed % 5 == 0) {
                    x.begin();
                    x.beginOpening();
                }
                due("coins(0)", x.coins(0), count[0]);
                due("coins(1)", x.coins(1), count[1]);
            }
        });
    }

    static void p38() {
        from("Promise 38");
        sentence("0 if no round had a coin", () -> {
            changesNothing("longestRun() at first", OwnerlessCoin::new, OwnerlessCoin::longestRun, 0);
            changesNothing("longestRun() after failed rounds", () -> {
                OwnerlessCoin x = opening(1, 3);
                x.close();
                x.begin();
                x.beginOpening();
                return x;
            }, OwnerlessCoin::longestRun, 0);
            changesNothing("longestRun() after one round", () -> resting(0), OwnerlessCoin::longestRun, 1);
        });
        sentence("(a failed round ends a succession)", () -> {
            for (int coin = 0; coin < 2; coin++) {
                OwnerlessCoin x = crowd(0, 2);
                int seed = playUntil(x, coin, 3, 0);
                x.begin();
                x.beginOpening();
                seed = playUntil(x, coin, 2, seed);
                due("longestRun() of 3, a failure, 2", x.longestRun(), 3);
                seed = playUntil(x, coin, 2, seed);
                due("longestRun() of 3, a failure, 4", x.longestRun(), 4);
                seed = playUntil(x, 1 - coin, 4, seed);
                due("longestRun() with 4 others", x.longestRun(), 4);
                playUntil(x, 1 - coin, 1, seed);
                due("longestRun() with 5 others", x.longestRun(), 5);
            }
        });
        sentence("of all that have ended", () -> {
            // a run that is no more kept, and one that is longer than what is kept
            OwnerlessCoin x = crowd(0, 2);
            int seed = playUntil(x, 1, 20, 0);
            due("longestRun() of 20", x.longestRun(), 20);
            for (int i = 0; i < 10; i++) {
                seed = playUntil(x, 0, 1, seed);
                seed = playUntil(x, 1, 1, seed);
            }
            due("longestRun() 20 rounds later", x.longestRun(), 20);
            x.undo();
            due("longestRun() after undo()", x.longestRun(), 20);
        });
    }

    /** Plays so many rounds with this coin, taking back those with the other; returns the next seed. */
    static int playUntil(OwnerlessCoin x, int coin, int number, int seed) {
        int next = seed;
        for (int had = 0; had < number; next++) {
            if (x.play(next) == coin) {
                had++;
            } else {
                x.undo();
            }
        }
        return next;
    }

    static void p39() {
        from("Promise 39");
        sentence("Returns how many states the history still has; STATE if it has none.", () -> {
            changesNothing("undo() at first", OwnerlessCoin::new, OwnerlessCoin::undo, STATE);
            for (int acts = 1; acts <= 9; acts++) {
                OwnerlessCoin x = new OwnerlessCoin();
                for (int i = 0; i < acts; i++) {
                    x.setDelay(1 + i);
                }
                for (int left = Math.min(4, acts) - 1; left >= 0; left--) {
                    due("undo() after " + acts + " acts", x.undo(), left);
                }
                due("undo() with none left", x.undo(), STATE);
                due("undo() with none left", x.undo(), STATE);
                due("setDelay(77)", x.setDelay(77), acts > 4 ? acts - 4 : 100);
                due("undo() of it", x.undo(), 0);
            }
        });
        sentence("Undoes the latest act.", () -> {
            // a round comes back, though in the next one a member has committed to something else
            for (int method = 0; method < 3; method++) {
                int m = method;
                Start start = () -> amidOpening(m);
                for (int member = 0; member < 3; member++) {
                    int p = member;
                    OwnerlessCoin x = start.make();
                    x.close();
                    x.begin();
                    x.commit(p, 1018, -7);
                    due("three times undo()", x.undo() + x.undo() + x.undo(), 3 + 2 + 1);
                    sameAs("all answers about the round before", start, x);
                }
            }
        });
        sentence("Undoes the latest act", () -> {
            // it is no act itself: there is no way forward again
            OwnerlessCoin x = new OwnerlessCoin();
            x.setFine(1);
            x.setFine(2);
            x.setFine(3);
            due("undo()", x.undo(), 2);
            due("undo()", x.undo(), 1);
            due("setFine(9)", x.setFine(9), 1);
            for (int i = 0; i < 200; i++) {
                due("undo()", x.undo(), 1);
                due("setFine(9)", x.setFine(9), 1);
            }
        });
    }

    static void p40() {
        from("Promise 40");
        sentence("in long arithmetic with overflow", () -> {
            OwnerlessCoin x = full();
            x.setFine(1);
            long print = printOf(23, 0, 0, 0, 0);
            for (int p = 0; p < 8; p++) {
                print = printOf(print, 100, 0, 0, 0, 0);
            }
            due("fingerprint() of eight", x.fingerprint(), print);
            x.play(MIN);
            int h = mixed(0, secretsOf(MIN, 8));
            print = printOf(23, 0, 1, 0, h);
            for (int p = 0; p < 8; p++) {
                print = printOf(print, 100, 1, 0, 0, 0);
            }
            due("fingerprint() after a round", x.fingerprint(), print);
        });
        sentence("pot()", () -> {
            OwnerlessCoin x = lab(0, 70, 80);
            x.behave(0, 1);
            x.behave(1, 1);
            x.play(3);
            due("fingerprint() with a pot", x.fingerprint(),
                    printOf(23, 0, 1, 20, mixed(0, 0, 0), 60, 0, 1, 0, 1, 70, 0, 1, 0, 1));
            OwnerlessCoin y = afterExpulsion();
            int[] d = {digest(0, 1, 0) & PUBLIC, digest(0, 11, 1) & PUBLIC, digest(0, 31, 3) & PUBLIC};
            due("fingerprint() after an expulsion", y.fingerprint(), printOf(23, 1, 0, 10, 0,
                    100, 0, 0, 0, 0, 100, 0, 0, 0, 0, 90, 0, 0, 1, 0, 100, 0, 0, 0, 0, 11, 11, 0, 4, d[0], d[1], NONE, d[2]));
        });
        sentence("It starts as 23", () ->
                changesNothing("fingerprint() at first", OwnerlessCoin::new, OwnerlessCoin::fingerprint, printOf(23, 0, 0, 0, 0)));
        sentence("if a round is going on, set(0) to set(3) and digest(p) for each participant", () -> {
            for (int method = 0; method < 3; method++) {
                int m = method, h = resting(m).output(0);
                int[] d = {digest(1, 1, 0) & PUBLIC, digest(1, 11, 1) & PUBLIC, digest(1, 21, 2) & PUBLIC};
                long committing = printOf(printOf(accountsPrint(1, h), 15, 7, 0, 0), d[0], d[1], d[2], NONE, NONE);
                changesNothing("fingerprint() in the committing", () -> amidCommitting(m), OwnerlessCoin::fingerprint, committing);
                long opening = printOf(printOf(accountsPrint(2, h), 7, 7, 2, 0), d[0], d[1], d[2], NONE, NONE);
                changesNothing("fingerprint() in the opening", () -> amidOpening(m), OwnerlessCoin::fingerprint, opening);
                changesNothing("fingerprint() after a round", () -> resting(m), OwnerlessCoin::fingerprint, accountsPrint(0, h));
            }
        });
        sentence("the output of the latest round that did not fail (0 if there was none)", () -> {
            OwnerlessCoin x = crowd(0, 2);
            x.begin();
            x.beginOpening();
            due("fingerprint() after a failed round", x.fingerprint(),
                    printOf(23, 0, 1, 0, 0, 100, 0, 0, 0, 0, 100, 0, 0, 0, 0));
            x.play(1);
            int h = mixed(0, secretsOf(1, 2));
            // a latest output that is no more kept
            for (int i = 0; i < 17; i++) {
                x.begin();
                x.beginOpening();
            }
            due("output(1)", x.output(1), 0);
            due("fingerprint() after many", x.fingerprint(), printOf(23, 0, 19, 0, h, 100, 1, 0, 0, 0, 100, 1, 0, 0, 0));
        });
    }

    /** The first numbers of resting(), amidCommitting() and amidOpening(). */
    static long accountsPrint(int phase, int output) {
        long print = printOf(23, phase, 1, 0, output);
        for (int p = 0; p < 4; p++) {
            print = printOf(print, 100, 1, 0, 0, 0);
        }
        return printOf(print, 5, 0, 0, 0, 0);
    }

    static long printOf(long start, int... numbers) {
        long print = start;
        for (int v : numbers) {
            print = 31 * print + v;
        }
        return print;
    }
}
