import java.util.ArrayList;
import java.util.List;

/**
 * "A call that is refused changes nothing." Rows of calls are made once as they are, and once more for each refused
 * call and each place in the row with that call at that place: the calls behind it must answer the same. So it is
 * with calls that only ask.
 */
public final class RefusedCallTest {
    private static final int TOP = 16777215;
    private static final int LEAST = Integer.MIN_VALUE;
    private static final int GREATEST = Integer.MAX_VALUE;

    private interface Call {
        long on(ArtifactBags x);
    }

    /** ALWAYS is refused in each state, AT_TIMES in some, ASKS changes nothing even if it is not refused. */
    private enum Sort { ALWAYS, AT_TIMES, ASKS }

    private record Step(String text, Call call) {
    }

    private record Candidate(Sort sort, Step step) {
    }

    private final List<Candidate> candidates = new ArrayList<>();
    private final List<Step> steps = new ArrayList<>();

    public static void main(String[] args) {
        new RefusedCallTest().tryAll();
        Check.finish();
    }

    private void tryAll() {
        addRefusedCards();
        addRefusedWithoutRepository();
        addOthers();
        int[] refused = new int[candidates.size()];
        cardsAndCheckIns();
        tryEachPlace(refused);
        aFullDraft();
        tryEachPlace(refused);
        aFullRepository(0);
        tryEachPlace(refused);
        aFullRepository(1);
        tryEachPlace(refused);
        roundsAndTags();
        tryEachPlace(refused);
        for (int i = 0; i < refused.length; i++) {
            Check.due("whether " + candidates.get(i).step.text + " was ever refused", refused[i] > 0, true);
        }
    }

    private void tryEachPlace(int[] refused) {
        Check.due("whether a row and six calls more are 512 at most", steps.size() + 6 <= 512, true);
        long[] dues = new long[steps.size()];
        ArtifactBags x = new ArtifactBags();
        for (int i = 0; i < dues.length; i++) {
            dues[i] = steps.get(i).call.on(x);
        }
        for (int i = 0; i < candidates.size(); i++) {
            for (int place = 0; place <= dues.length; place++) {
                refused[i] += tryAt(place, candidates.get(i), dues);
            }
        }
        steps.clear();
    }

    private int tryAt(int place, Candidate candidate, long[] dues) {
        ArtifactBags x = new ArtifactBags();
        for (int i = 0; i < place; i++) {
            steps.get(i).call.on(x);
        }
        long answer = candidate.step.call.on(x);
        if (candidate.sort == Sort.ALWAYS) {
            Check.due(candidate.step.text, answer, -1);
        }
        if (candidate.sort == Sort.AT_TIMES && answer != -1) {
            return 0;
        }
        for (int i = place; i < dues.length; i++) {
            Check.due(steps.get(i).text + " behind " + candidate.step.text, steps.get(i).call.on(x), dues[i]);
        }
        return answer == -1 ? 1 : 0;
    }

    private void refuse(String text, Call call) {
        candidates.add(new Candidate(Sort.ALWAYS, new Step(text, call)));
    }

    private void atTimes(String text, Call call) {
        candidates.add(new Candidate(Sort.AT_TIMES, new Step(text, call)));
    }

    private void ask(String text, Call call) {
        candidates.add(new Candidate(Sort.ASKS, new Step(text, call)));
    }

    private void addRefusedCards() {
        int[][] cards = {{-1, 1, 2}, {7, 1, 2}, {LEAST, 1, 2}, {GREATEST, 1, 2}, {0, -1, 0}, {0, 10000, 0}, {0, LEAST, 0},
            {0, GREATEST, 0}, {1, -1, 5}, {1, 10, 5}, {1, 5, -1}, {1, 5, TOP + 1}, {2, -1, 0}, {2, TOP + 1, 0}, {3, -1, 5},
            {3, TOP + 1, 5}, {3, -1, -1}, {3, TOP + 1, -1}, {3, 5, -2}, {3, 5, TOP + 1}, {3, 5, 5}, {3, 0, 0}, {3, TOP, TOP},
            {4, -1, 0}, {4, TOP + 1, 0}, {5, -11, 5}, {5, 10, 5}, {5, -11, -1}, {5, 10, -1}, {5, 5, -2}, {5, 5, TOP + 1},
            {5, -5, -2}, {5, -5, TOP + 1}, {5, LEAST, 5}, {5, GREATEST, 5}};
        for (int[] c : cards) {
            refuse("card(" + c[0] + ", " + c[1] + ", " + c[2] + ")", x -> x.card(c[0], c[1], c[2]));
        }
        int[] noCounts = {0, -1, 9, LEAST, GREATEST};
        for (int n : noCounts) {
            refuse("raw(5, " + n + ")", x -> x.raw(5, n));
        }
        int[] noBudgets = {-1, 10001, LEAST, GREATEST};
        for (int budget : noBudgets) {
            refuse("round(" + budget + ")", x -> x.round(budget));
        }
    }

    private void addRefusedWithoutRepository() {
        int[] none = {-1, 2, LEAST, GREATEST};
        for (int r : none) {
            refuse("files(" + r + ")", x -> x.files(r));
            refuse("put(" + r + ")", x -> x.put(r));
            refuse("held(" + r + ")", x -> x.held(r));
            refuse("name(" + r + ", 0)", x -> x.name(r, 0));
            refuse("octet(" + r + ", 0, 0)", x -> x.octet(r, 0, 0));
            refuse("kind(" + r + ", 0)", x -> x.kind(r, 0));
            refuse("wanted(" + r + ")", x -> x.wanted(r));
            refuse("wants(" + r + ", 5)", x -> x.wants(r, 5) ? 1 : -1);
            refuse("checkIns(" + r + ")", x -> x.checkIns(r));
            refuse("timeline(" + r + ", 0)", x -> x.timeline(r, 0));
            refuse("children(" + r + ", 5)", x -> x.children(r, 5));
            refuse("leaves(" + r + ")", x -> x.leaves(r));
            refuse("tag(" + r + ", 5, 1)", x -> x.tag(r, 5, 1));
            refuse("loose(" + r + ")", x -> x.loose(r));
            refuse("rebuild(" + r + ")", x -> x.rebuild(r));
        }
    }

    private void addOthers() {
        int[][] cards = {{0, 7, 0}, {0, 9999, 0}, {1, 1, 1}, {2, 1, 0}, {3, 1, -1}, {3, 1, 2}, {4, 1, 0}, {5, 1, -1}, {5, -2, 1},
            {6, 0, 0}};
        for (int[] c : cards) {
            atTimes("card(" + c[0] + ", " + c[1] + ", " + c[2] + ") without room", x -> x.card(c[0], c[1], c[2]));
        }
        for (int n = 1; n <= 8; n++) {
            int count = n;
            atTimes("raw(5, " + n + ") without room", x -> x.raw(5, count));
        }
        for (int i = 0; i < 2; i++) {
            int r = i;
            atTimes("put(" + r + ") of nothing or without room", x -> x.put(r));
            refuse("name(" + r + ", -1)", x -> x.name(r, -1));
            refuse("name(" + r + ", 32)", x -> x.name(r, 32));
            refuse("timeline(" + r + ", -1)", x -> x.timeline(r, -1));
            refuse("timeline(" + r + ", 32)", x -> x.timeline(r, 32));
            refuse("octet(" + r + ", 100, -1)", x -> x.octet(r, 100, -1));
            refuse("octet(" + r + ", 100, 240)", x -> x.octet(r, 100, 240));
            refuse("octet(" + r + ", 16777216, 0)", x -> x.octet(r, TOP + 1, 0));
            refuse("kind(" + r + ", -1)", x -> x.kind(r, -1));
            refuse("kind(" + r + ", 16777216)", x -> x.kind(r, TOP + 1));
            refuse("tag(" + r + ", 5, -1)", x -> x.tag(r, 5, -1));
            refuse("tag(" + r + ", 5, 10)", x -> x.tag(r, 5, 10));
            ask("files(" + r + ")", x -> x.files(r));
            ask("name(" + r + ", 3)", x -> x.name(r, 3));
            ask("octet(" + r + ", 100, 3)", x -> x.octet(r, 100, 3));
            ask("kind(" + r + ", 100)", x -> x.kind(r, 100));
            ask("wants(" + r + ", 5)", x -> x.wants(r, 5) ? 1 : -1);
            ask("timeline(" + r + ", 0)", x -> x.timeline(r, 0));
            ask("tag(" + r + ", 5, 1)", x -> x.tag(r, 5, 1));
            ask("the counts of " + r, x -> countsOf(x, r));
        }
    }

    /** Calls that are never refused, but change nothing; it answers NONE so that it counts as tried. */
    private static long countsOf(ArtifactBags x, int r) {
        boolean none = x.held(r) < 0 || x.wanted(r) < 0 || x.checkIns(r) < 0 || x.children(r, 5) < 0 || x.leaves(r) < 0
                || x.loose(r) < 0;
        return none ? 0 : -1;
    }

    private void step(String text, Call call) {
        steps.add(new Step(text, call));
    }

    private void write(String text) {
        byte[] bytes = Texts.bytes(text);
        for (int at = 0; at < bytes.length; at += 8) {
            int n = Math.min(8, bytes.length - at);
            long packed = 0;
            for (int i = 0; i < n; i++) {
                packed |= (bytes[at + i] & 255L) << (8 * i);
            }
            long all = packed;
            step("raw(" + all + ", " + n + ")", x -> x.raw(all, n));
        }
    }

    private void put(int r, String text) {
        write(text);
        step("put(" + r + ")", x -> x.put(r));
    }

    private void round(int budget) {
        step("round(" + budget + ")", x -> x.round(budget));
    }

    private void look(int r, int... names) {
        step("held(" + r + ")", x -> x.held(r));
        step("wanted(" + r + ")", x -> x.wanted(r));
        step("checkIns(" + r + ")", x -> x.checkIns(r));
        step("leaves(" + r + ")", x -> x.leaves(r));
        step("loose(" + r + ")", x -> x.loose(r));
        step("files(" + r + ")", x -> x.files(r));
        for (int i = 0; i < 4; i++) {
            int k = i;
            step("name(" + r + ", " + k + ")", x -> x.name(r, k));
            step("timeline(" + r + ", " + k + ")", x -> x.timeline(r, k));
        }
        for (int name : names) {
            step("kind(" + r + ", " + name + ")", x -> x.kind(r, name));
            step("octet(" + r + ", " + name + ", 0)", x -> x.octet(r, name, 0));
            step("wants(" + r + ", " + name + ")", x -> x.wants(r, name) ? 1 : 0);
            step("children(" + r + ", " + name + ")", x -> x.children(r, name));
            step("tag(" + r + ", " + name + ", 1)", x -> x.tag(r, name, 1));
        }
    }

    private void cardsAndCheckIns() {
        put(0, "one");
        int[][] cards = {{0, 12, 0}, {1, 1, Texts.digest("one")}, {3, 5, 6}, {4, Texts.digest("one"), 0}, {5, 1, -1}, {6, 0, 0}};
        for (int[] c : cards) {
            step("card(" + c[0] + ", " + c[1] + ", " + c[2] + ")", x -> x.card(c[0], c[1], c[2]));
        }
        step("files(0)", x -> x.files(0));
        step("put(0)", x -> x.put(0));
        put(0, Texts.checkIn(3, Texts.line('P', 5), ""));
        write(Texts.file(2, Texts.digest("one")));
        look(0, 5, 6, Texts.digest("one"));
        look(1, 5);
        write(Texts.file(3, 77));
        step("files(0) of one that is not held", x -> x.files(0));
        step("drop()", x -> x.drop());
        step("rebuild(0)", x -> x.rebuild(0));
        look(0, 5, Texts.digest("one"));
    }

    private void aFullDraft() {
        write("x".repeat(224));
        for (int i = 0; i < 16; i++) {
            step("raw(65, 1)", x -> x.raw(65, 1));
        }
        step("put(1)", x -> x.put(1));
        look(1, Texts.digest("x".repeat(224) + "A".repeat(16)));
        write("y".repeat(240));
        step("drop()", x -> x.drop());
        step("drop() again", x -> x.drop());
    }

    private void aFullRepository(int r) {
        for (int i = 0; i < 33; i++) {
            put(r, Texts.named(100 + i, 4));
        }
        look(r, 100, 131, 132);
        step("put elsewhere", x -> x.put(1 - r));
        put(r, Texts.named(131, 5));
        write("rest");
        look(1 - r, 132);
        round(0);
        round(60);
        look(r, 100, 132);
        look(1 - r, 100, 101, 132);
        step("drop()", x -> x.drop());
    }

    private void roundsAndTags() {
        for (int i = 0; i < 6; i++) {
            put(0, Texts.named(100 + 10 * i, 4));
        }
        put(1, Texts.sealed("D 4\n" + Texts.tag("+1", 5)));
        put(1, Texts.sealed("D 5\n" + Texts.file(0, 100) + Texts.line('P', 5) + Texts.line('R', 100) + "T -1 *\n"));
        write("the draft\n");
        round(0);
        look(0, 5, 100);
        look(1, 5, 100);
        round(30);
        round(100);
        step("rebuild(1)", x -> x.rebuild(1));
        round(100);
        round(10000);
        look(0, 5, 100);
        look(1, 5, 100);
        round(10000);
        look(1, 100);
        step("put(0)", x -> x.put(0));
        look(0, Texts.digest("the draft\n"));
    }
}
