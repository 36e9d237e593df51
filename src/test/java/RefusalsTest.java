import java.util.ArrayList;
import java.util.Arrays;
import java.util.List;

/**
 * "Answers: UNKNOWN an END, a TREE, a slot that there is not; OUTSIDE another number; STATE; ROOM; of several the
 * first one here; what is refused so changes nothing." Each refused call is made in several states, and all that
 * can be seen of the object is asked with it and without it. As an object has 512 calls, each question that is
 * long has a new object, brought into the same state.
 */
public final class RefusalsTest extends Check {
    interface Act {
        long on(AdaptiveTrees x);
    }

    interface Question {
        long[] on(AdaptiveTrees x);
    }

    /** A state is how a new object comes into it. */
    interface State {
        AdaptiveTrees make();
    }

    static final class Refused {
        final String text;
        final long want;
        final Act act;

        Refused(String text, long want, Act act) {
            this.text = text;
            this.want = want;
            this.act = act;
        }
    }

    private final List<Question> questions = new ArrayList<>();

    public static void main(String[] args) {
        RefusalsTest test = new RefusalsTest();
        test.askForTrees();
        test.askForBits();
        test.askForTheReader();
        test.askForTheRest();
        test.newObject();
        test.inANumber();
        test.onAWay();
        test.full();
        test.end("RefusalsTest");
    }

    private void askForTrees() {
        for (int k = 0; k < 32; k++) {
            int end = k % 2, t = k / 2 % 4, what = k / 8;
            questions.add(x -> {
                long[] answers = new long[x.nodes(end, t)];
                for (int i = 0; i < answers.length; i++) {
                    answers[i] = node(x, end, t, i, what);
                }
                return answers;
            });
        }
        questions.add(x -> {
            long[] answers = new long[24];
            for (int k = 0; k < 8; k++) {
                answers[3 * k] = x.halved(k % 2, k / 2);
                answers[3 * k + 1] = x.escape(k % 2, k / 2);
                answers[3 * k + 2] = x.well(k % 2, k / 2);
            }
            return answers;
        });
    }

    private void askForBits() {
        for (int from = 0; from < 1000; from += 250) {
            int first = from;
            questions.add(x -> {
                long[] answers = new long[250];
                for (int i = 0; i < 250; i++) {
                    answers[i] = x.bit(first + i);
                }
                return answers;
            });
        }
        questions.add(x -> new long[] {x.bits(), x.pulled(), x.bit(-1), x.bit(1000), x.drop()});
    }

    private void askForTheReader() {
        for (int k = 0; k < 8; k++) {
            int t = k % 4;
            boolean bit = k / 4 == 1;
            questions.add(x -> {
                long[] answers = new long[14];
                for (int i = 0; i < 14; i++) {
                    answers[i] = x.get(t, i % 3 == 0 ? bit : !bit);
                }
                return answers;
            });
            questions.add(x -> new long[] {x.pull(t), x.pulled(), x.pull(t), x.pulled()});
        }
    }

    private void askForTheRest() {
        questions.add(x -> new long[] {x.limit(8), x.same(0), x.same(1), x.same(2), x.same(3)});
        for (int k = 0; k < 4; k++) {
            int slot = k;
            questions.add(x -> {
                long[] answers = new long[44];
                answers[0] = x.restore(slot, WRITER, 3);
                answers[1] = x.nodes(WRITER, 3);
                answers[2] = x.halved(WRITER, 3);
                answers[3] = x.save(slot, WRITER, 3);
                for (int i = 0; i < 40; i++) {
                    answers[4 + i] = node(x, WRITER, 3, i / 4, i % 4);
                }
                return answers;
            });
            questions.add(x -> new long[] {x.put(slot, 0), x.put(slot, 1), x.bits()});
        }
    }

    private void dueRefused(String name, State state, List<Refused> calls) {
        about(name);
        List<long[]> without = new ArrayList<>();
        for (Question question : questions) {
            without.add(question.on(state.make()));
        }
        for (Refused call : calls) {
            for (int i = 0; i < questions.size(); i++) {
                AdaptiveTrees x = state.make();
                due(call.text, call.act.on(x), call.want);
                boolean like = Arrays.equals(questions.get(i).on(x), without.get(i));
                due(call.text + ", question " + i + " is answered as without it", like ? 1 : 0, 1);
            }
        }
    }

    /** Those that are refused in every state of an object with so many SIGNS. */
    private static List<Refused> refusedAlways(int signs) {
        List<Refused> calls = new ArrayList<>();
        for (int no : NO_TREES) {
            calls.add(new Refused("form of tree " + no, UNKNOWN, x -> x.form(no, 1)));
            calls.add(new Refused("form 2 of tree " + no, UNKNOWN, x -> x.form(no, 2)));
            calls.add(new Refused("put in tree " + no, UNKNOWN, x -> x.put(no, 0)));
            calls.add(new Refused("put of no SIGN in tree " + no, UNKNOWN, x -> x.put(no, signs)));
            calls.add(new Refused("get of tree " + no, UNKNOWN, x -> x.get(no, true)));
            calls.add(new Refused("pull of tree " + no, UNKNOWN, x -> x.pull(no)));
            calls.add(new Refused("same of tree " + no, UNKNOWN, x -> x.same(no)));
            calls.add(new Refused("save in slot " + no, UNKNOWN, x -> x.save(no, 0, 0)));
            calls.add(new Refused("save of tree " + no, UNKNOWN, x -> x.save(0, 1, no)));
            calls.add(new Refused("save of tree " + no + " in slot 3", UNKNOWN, x -> x.save(3, 1, no)));
            calls.add(new Refused("restore of slot " + no, UNKNOWN, x -> x.restore(no, 1, 2)));
            calls.add(new Refused("restore of tree " + no, UNKNOWN, x -> x.restore(0, 1, no)));
            calls.add(new Refused("restore of tree " + no + ", empty slot", UNKNOWN, x -> x.restore(3, 1, no)));
            calls.add(new Refused("node of tree " + no, THROWS, x -> node(x, 0, no, 0, 0)));
        }
        for (int no : NO_ENDS) {
            calls.add(new Refused("save of end " + no, UNKNOWN, x -> x.save(3, no, 0)));
            calls.add(new Refused("restore of end " + no, UNKNOWN, x -> x.restore(0, no, 1)));
            calls.add(new Refused("restore of end " + no + ", empty slot", UNKNOWN, x -> x.restore(3, no, 1)));
            calls.add(new Refused("node of end " + no, THROWS, x -> node(x, no, 0, 0, 0)));
            calls.add(new Refused("cost of end " + no, UNKNOWN, x -> x.cost(no, 0, signs)));
            calls.add(new Refused("code of end " + no, UNKNOWN, x -> x.code(no, 0, signs, -1)));
            calls.add(new Refused("knows of end " + no, UNKNOWN, x -> x.knows(no, 0, signs)));
        }
        for (int no : new int[] {-1, signs, LEAST, MOST}) {
            calls.add(new Refused("put of sign " + no, OUTSIDE, x -> x.put(0, no)));
            calls.add(new Refused("put of sign " + no, OUTSIDE, x -> x.put(3, no)));
            calls.add(new Refused("cost of sign " + no, OUTSIDE, x -> x.cost(1, 1, no)));
            calls.add(new Refused("code of sign " + no, OUTSIDE, x -> x.code(1, 1, no, -1)));
            calls.add(new Refused("knows of sign " + no, OUTSIDE, x -> x.knows(1, 1, no)));
        }
        for (int no : new int[] {-1, 2, LEAST, MOST}) {
            calls.add(new Refused("form " + no, OUTSIDE, x -> x.form(0, no)));
            calls.add(new Refused("form " + no + " of tree 2", OUTSIDE, x -> x.form(2, no)));
        }
        for (int no : new int[] {7, 100001, 0, -8, LEAST, MOST}) {
            calls.add(new Refused("limit " + no, OUTSIDE, x -> x.limit(no)));
        }
        return calls;
    }

    private static void addEmptySlots(List<Refused> calls, int from) {
        for (int k = from; k < 4; k++) {
            int slot = k;
            calls.add(new Refused("restore of empty slot " + slot, STATE, x -> x.restore(slot, 0, 0)));
            calls.add(new Refused("restore of empty slot " + slot, STATE, x -> x.restore(slot, 1, 2)));
        }
    }

    private static void addOtherTrees(List<Refused> calls, int in) {
        for (int k = 0; k < 4; k++) {
            int t = k;
            if (t != in) {
                calls.add(new Refused("get of tree " + t, STATE, x -> x.get(t, true)));
                calls.add(new Refused("get of tree " + t, STATE, x -> x.get(t, false)));
                calls.add(new Refused("pull of tree " + t, STATE, x -> x.pull(t)));
            }
        }
    }

    private void newObject() {
        List<Refused> calls = refusedAlways(3);
        addEmptySlots(calls, 0);
        dueRefused("what is refused changes nothing, in a new object", () -> new AdaptiveTrees(3), calls);
    }

    /** TREES of both FORMS that were used, BITS of which some are taken, two slots that have TREES. */
    private static AdaptiveTrees used() {
        AdaptiveTrees x = new AdaptiveTrees(5);
        x.form(1, SPLAYED);
        x.limit(9);
        for (int i = 0; i < 12; i++) {
            x.put(i % 3, i * i % 5);
        }
        for (int i = 0; i < 7; i++) {
            x.pull(i % 3);
        }
        x.save(0, WRITER, 0);
        putAll(x, 0, 4, 4, 4, 4, 3, 2, 2);
        x.save(1, WRITER, 0);
        return x;
    }

    private void inANumber() {
        List<Refused> calls = refusedAlways(5);
        addEmptySlots(calls, 2);
        addOtherTrees(calls, 3);
        dueRefused("what is refused changes nothing, with the READER in a number", () -> {
            AdaptiveTrees x = used();
            x.get(3, true);
            return x;
        }, calls);
    }

    private void onAWay() {
        List<Refused> calls = refusedAlways(5);
        addEmptySlots(calls, 2);
        addOtherTrees(calls, 1);
        dueRefused("what is refused changes nothing, with the READER on a way", () -> {
            AdaptiveTrees x = used();
            x.form(1, SPLAYED);
            x.get(1, false);
            return x;
        }, calls);
    }

    private void full() {
        List<Refused> calls = refusedAlways(64);
        addEmptySlots(calls, 0);
        for (int k = 0; k < 4; k++) {
            int t = k;
            calls.add(new Refused("put in tree " + t, ROOM, x -> x.put(t, 0)));
            calls.add(new Refused("put in tree " + t, ROOM, x -> x.put(t, 63)));
        }
        addOtherTrees(calls, 1);
        dueRefused("what is refused changes nothing, with 1000 BITS", () -> {
            AdaptiveTrees x = withBits(1000);
            x.pull(3);
            x.get(1, true);
            return x;
        }, calls);
    }
}
