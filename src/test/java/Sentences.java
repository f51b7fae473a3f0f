import java.io.IOException;
import java.nio.file.Files;
import java.nio.file.Path;
import java.util.ArrayList;
import java.util.HashMap;
import java.util.List;
import java.util.Map;
import java.util.Set;
import java.util.TreeSet;

/** Tests of single sentences of the document, and what they are made of. */
abstract class Sentences extends Checks {
    interface Call {
        long of(OwnerlessCoin x);
    }

    interface PersonCall {
        long of(OwnerlessCoin x, int p);
    }

    interface NumberCall {
        long of(OwnerlessCoin x, int number);
    }

    /** A laboratory at some stage, made anew each time. */
    interface Start {
        OwnerlessCoin make();
    }

    static final Set<String> places = new TreeSet<>();
    static int sentences = 0;
    static String document = "", section = "", place = "";

    /** With the document's path as an argument, the words of every sentence are looked for in it, too. */
    static void readDocument(String[] args) throws IOException {
        if (args.length > 0) {
            document = Files.readString(Path.of(args[0]));
        }
    }

    /** The sentences that follow are from the section whose headline begins so, "Promise 7" say. */
    static void from(String headline) {
        place = headline;
        int start = Math.max(document.indexOf("## " + headline + ":"), document.indexOf("## " + headline + "\n"));
        section = start < 0 ? "" : document.substring(start).split("\n## ")[0];
    }

    static void sentence(String words, Runnable test) {
        promise = place + ", '" + words + "'";
        if (!document.isEmpty()) {
            due("the document has these words", section.contains(words) ? 1 : 0, 1);
        }
        test.run();
        places.add(place);
        sentences++;
    }

    static void finishSentences(String name) {
        System.out.println(name + ": " + sentences + " sentences");
        finish(name);
    }

    // ---- laboratories at every stage

    /** Five participants, the last of which can't pay the fine; round 0 has ended. */
    static OwnerlessCoin resting(int method) {
        OwnerlessCoin x = lab(method, 100, 100, 100, 100, 5);
        x.play(3);
        return x;
    }

    /** Of the members 0 to 3, all but 3 have committed; with shares, 0 has a wrong one from 2. */
    static OwnerlessCoin amidCommitting(int method) {
        OwnerlessCoin x = resting(method);
        x.begin();
        for (int p = 0; p < 3; p++) {
            commits(x, p);
        }
        x.spoil(2, 0, 1);
        return x;
    }

    /** Of the members 0 to 2, only 1 is opened. */
    static OwnerlessCoin amidOpening(int method) {
        OwnerlessCoin x = amidCommitting(method);
        x.beginOpening();
        opens(x, 1);
        return x;
    }

    static OwnerlessCoin full() {
        return crowd(0, 8);
    }

    /** Of the members 0 to 3 with method 1, all have committed; 2 was expelled by 0. */
    static OwnerlessCoin afterExpulsion() {
        OwnerlessCoin x = committing(1, 4);
        x.spoil(2, 0, 1);
        x.complain(0, 2);
        return x;
    }

    /** The same objects each time, so that what was seen of them can be kept. */
    static final List<Start> EVERYWHERE = everywhere();

    private static List<Start> everywhere() {
        List<Start> all = new ArrayList<>(List.of(OwnerlessCoin::new, Sentences::full, Sentences::afterExpulsion));
        for (int m = 0; m < 3; m++) {
            int method = m;
            all.add(() -> resting(method));
            all.add(() -> amidCommitting(method));
            all.add(() -> amidOpening(method));
        }
        return all;
    }

    static int participants(OwnerlessCoin x) {
        int n = 0;
        while (x.account(n, 0) >= 0) {
            n++;
        }
        return n;
    }

    // ---- all that a laboratory answers

    /** The answers to questions about everything but the settings. */
    static void look(OwnerlessCoin x, List<Long> seen) {
        int n = participants(x);
        for (Call c : List.<Call>of(OwnerlessCoin::phase, OwnerlessCoin::rounds, OwnerlessCoin::pot, OwnerlessCoin::longestRun,
                OwnerlessCoin::fingerprint, y -> y.coins(0), y -> y.coins(1), y -> y.set(0), y -> y.set(1), y -> y.set(2), y -> y.set(3))) {
            seen.add(c.of(x));
        }
        for (int round = Math.max(0, x.rounds() - 2); round < x.rounds(); round++) {
            for (int what = 0; what < 5; what++) {
                seen.add((long) x.past(round, what));
            }
            seen.add((long) x.output(round));
        }
        for (int p = 0; p < n; p++) {
            lookAt(x, p, n, seen);
        }
        int unopened = x.phase() == 2 ? x.set(0) & ~x.set(2) : 0;
        seen.add((long) x.results(unopened));
        seen.add((long) x.canForce(unopened, 0));
        seen.add((long) x.bias(unopened, 1));
    }

    private static void lookAt(OwnerlessCoin x, int p, int n, List<Long> seen) {
        for (int what = 0; what < 5; what++) {
            seen.add((long) x.account(p, what));
        }
        seen.add((long) x.digest(p));
        seen.add((long) x.lock(p, 0));
        seen.add((long) x.lock(p, 1));
        seen.add((long) x.recover(p, 255));
        for (int k = 0; k < 3; k++) {
            seen.add((long) x.check(p, k));
        }
        for (int j = 0; j < n; j++) {
            seen.add((long) x.share(p, j));
            seen.add((long) x.isRight(p, j));
        }
    }

    /** Opens and closes what can be, and changes the settings, which answer what they were. */
    static void end(OwnerlessCoin x, List<Long> seen) {
        int n = participants(x);
        seen.add((long) x.beginOpening());
        for (int p = 0; p < n; p++) {
            seen.add((long) opens(x, p));
        }
        seen.add((long) x.close());
        seen.add((long) x.setMethod(0));
        seen.add((long) x.setThreshold(1));
        seen.add((long) x.setFine(0));
        seen.add((long) x.setDelay(1));
        seen.add(x.fingerprint());
    }

    /** All answers after so many calls of undo(), and how the round ends then. */
    static List<Long> everything(OwnerlessCoin x, int back) {
        List<Long> seen = new ArrayList<>();
        for (int i = 0; i < back; i++) {
            seen.add((long) x.undo());
        }
        look(x, seen);
        end(x, seen);
        return seen;
    }

    private static final Map<Start, List<List<Long>>> seenOf = new HashMap<>();

    private static List<Long> everythingOf(Start start, int back) {
        List<List<Long>> seen = seenOf.computeIfAbsent(start, s -> new ArrayList<>());
        while (seen.size() <= back) {
            seen.add(everything(start.make(), seen.size()));
        }
        return seen.get(back);
    }

    // ---- calls that change nothing, and acts

    /** The answer is due, and all later answers, undos among them, are as if the call had not been made. */
    static void changesNothing(String call, Start start, Call f, long answer) {
        for (int back = 0; back <= 5; back++) {
            OwnerlessCoin x = start.make();
            due(call, f.of(x), answer);
            boolean same = everything(x, back).equals(everythingOf(start, back));
            due(call + " changes nothing, as " + back + " undos show", same ? 1 : 0, 1);
        }
    }

    static void changesNothingAnywhere(String call, Call f, long answer) {
        for (Start start : EVERYWHERE) {
            changesNothing(call, start, f, answer);
        }
    }

    /** A number is refused at every stage just outside its range and far from it. */
    static void ranged(String name, int low, int high, NumberCall f) {
        for (int bad : new int[] {low - 1, high + 1, MIN, MAX}) {
            changesNothingAnywhere(name + " with " + bad, x -> f.of(x, bad), BAD);
        }
    }

    /** A participant's number is refused at every stage, if there is none of this number. */
    static void participantOnly(String name, PersonCall f) {
        for (Start start : EVERYWHERE) {
            int n = participants(start.make());
            for (int bad : new int[] {-1, n, 8, MIN, MAX}) {
                changesNothing(name + " of " + bad, start, x -> f.of(x, bad), BAD);
            }
        }
    }

    /** The answer is due, one state more is in the history, and undo() brings back all that was. */
    static void act(String call, Start start, Call f, long answer) {
        int states = statesOf(start.make());
        OwnerlessCoin x = start.make();
        due(call, f.of(x), answer);
        due("undo() of " + call, x.undo(), Math.min(states, 3));
        sameAs("all answers after undo() of " + call, start, x);
        OwnerlessCoin y = start.make();
        f.of(y);
        due("states with that of " + call, statesOf(y), Math.min(states + 1, 4));
    }

    /** All answers, those of undo() excepted, are as at the start. */
    static void sameAs(String what, Start start, OwnerlessCoin x) {
        due(what, everything(x, 0).equals(everythingOf(start, 0)) ? 1 : 0, 1);
    }

    /** How many states the history has. */
    static int statesOf(OwnerlessCoin x) {
        int states = 0;
        while (x.undo() >= 0) {
            states++;
        }
        return states;
    }
}
