import java.util.ArrayList;
import java.util.List;
import java.util.Random;

/** All promises at once: long runs of calls, the same ones each time, whose answers are the model's. */
public final class ModelTest {
    private static final int RUNS = 400;
    private static final int CALLS = 512;
    /** More calls than one turn of writing and asking makes. */
    private static final int MOST_OF_A_TURN = 50;

    private static final int[] WRONG = {-1, -2, 2, 16777216, 10001, Integer.MIN_VALUE, Integer.MAX_VALUE};

    private final Random random;
    private final ArtifactBags bags = new ArtifactBags();
    private final Model model = new Model();
    private final List<Integer> names = new ArrayList<>();
    private final String run;
    private int calls = 0;

    private ModelTest(int seed) {
        random = new Random(seed);
        run = "run " + seed + ": ";
        names.add(0);
        names.add(16777215);
        names.add(7);
        // Names of contents that may come later.
        for (char c = 'a'; c < 'f'; c++) {
            names.add(Texts.digest("" + c));
        }
    }

    public static void main(String[] args) {
        for (int seed = 0; seed < RUNS; seed++) {
            new ModelTest(seed).play();
        }
        Check.finish();
    }

    private void play() {
        int askEvery = 1 + random.nextInt(6);
        boolean looksAtAll = random.nextInt(3) > 0;
        while (calls + MOST_OF_A_TURN + (looksAtAll ? callsToAskAll() : 0) <= CALLS) {
            write();
            if (random.nextInt(askEvery) == 0) {
                ask();
            }
            if (random.nextInt(8) == 0) {
                int budget = random.nextInt(4) == 0 ? random.nextInt(60) : random.nextInt(30) == 0 ? pickWrong() : 10000;
                due("round(" + budget + ")", bags.round(budget), model.round(budget));
            }
        }
        if (looksAtAll) {
            askAll();
        }
        while (calls < CALLS) {
            due("round(100)", bags.round(100), model.round(100));
        }
        Check.due(run + "calls", calls, CALLS);
    }

    private void due(String call, long got, long want) {
        calls++;
        Check.due(run + call, got, want);
    }

    private int pickName() {
        return random.nextInt(40) == 0 ? pickWrong() : names.get(random.nextInt(names.size()));
    }

    private int pickRepository() {
        return random.nextInt(60) == 0 ? pickWrong() : random.nextInt(2);
    }

    /** A number that is wrong in most places. */
    private int pickWrong() {
        return WRONG[random.nextInt(WRONG.length)];
    }

    private void card(int kind, int a, int b) {
        due("card(" + kind + ", " + a + ", " + b + ")", bags.card(kind, a, b), model.card(kind, a, b));
    }

    private void raw(long bytes, int n) {
        due("raw(" + bytes + ", " + n + ")", bags.raw(bytes, n), model.raw(bytes, n));
    }

    private void put(int repository) {
        int name = bags.put(repository);
        due("put(" + repository + ")", name, model.put(repository));
        if (name != -1) {
            names.add(name);
        }
    }

    private void write() {
        int repository = pickRepository();
        switch (random.nextInt(7)) {
            case 0:
                raw('a' + random.nextInt(5), 1);
                break;
            case 1:
            case 2:
                manifest(repository);
                break;
            case 3:
                control();
                break;
            case 4:
                cluster();
                break;
            case 5:
                raw(random.nextLong(), random.nextInt(20) == 0 ? pickWrong() : random.nextInt(10));
                break;
            default:
                anyCards();
                break;
        }
        if (random.nextInt(25) == 0) {
            due("drop()", bags.drop(), model.drop());
        }
        put(repository);
        if (random.nextInt(10) == 0) {
            put(1 - repository);
        }
    }

    private void manifest(int repository) {
        card(0, random.nextInt(4) * random.nextInt(20), 0);
        int digit = -1;
        for (int files = random.nextInt(3); files > 0; files--) {
            digit += 1 + random.nextInt(3);
            card(1, digit, pickName());
        }
        if (random.nextInt(2) == 0) {
            card(3, pickName(), random.nextInt(2) == 0 ? -1 : pickName());
        }
        int digest = bags.files(repository);
        due("files(" + repository + ")", digest, model.files(repository));
        card(4, random.nextInt(12) == 0 ? pickName() : digest == -1 ? digestElsewhere(1 - repository) : digest, 0);
        tags(random.nextInt(3), true);
        seal();
    }

    private int digestElsewhere(int repository) {
        int digest = bags.files(repository);
        due("files(" + repository + ")", digest, model.files(repository));
        return digest == -1 ? 7 : digest;
    }

    private void tags(int count, boolean starred) {
        int digit = -1;
        for (int i = 0; i < count; i++) {
            digit += 1 + random.nextInt(2);
            card(5, random.nextBoolean() ? digit : -1 - digit, starred ? -1 : pickName());
        }
    }

    private void control() {
        card(0, random.nextInt(20), 0);
        tags(1 + random.nextInt(3), random.nextInt(15) == 0);
        seal();
    }

    private void cluster() {
        java.util.TreeSet<Integer> members = new java.util.TreeSet<>();
        for (int i = random.nextInt(4); i >= 0; i--) {
            members.add(pickName());
        }
        for (int member : members) {
            card(2, member, 0);
        }
        seal();
    }

    private void seal() {
        if (random.nextInt(20) != 0) {
            card(6, 0, 0);
        }
    }

    private void anyCards() {
        for (int i = random.nextInt(4); i >= 0; i--) {
            card(random.nextInt(30) == 0 ? pickWrong() : random.nextInt(8), random.nextBoolean() ? random.nextInt(22) - 11 : pickName(), pickName());
        }
        seal();
    }

    private void ask() {
        int r = pickRepository();
        int name = pickName();
        int k = random.nextInt(30) == 0 ? pickWrong() : random.nextInt(12) - 1;
        due("held(" + r + ")", bags.held(r), model.held(r));
        due("name(" + r + ", " + k + ")", bags.name(r, k), model.name(r, k));
        due("octet(" + r + ", " + name + ", " + k + ")", bags.octet(r, name, k), model.octet(r, name, k));
        due("kind(" + r + ", " + name + ")", bags.kind(r, name), model.kind(r, name));
        due("wants(" + r + ", " + name + ")", bags.wants(r, name) ? 1 : 0, model.wants(r, name) ? 1 : 0);
        due("timeline(" + r + ", " + k + ")", bags.timeline(r, k), model.timeline(r, k));
        due("children(" + r + ", " + name + ")", bags.children(r, name), model.children(r, name));
        due("tag(" + r + ", " + name + ", " + k + ")", bags.tag(r, name, k), model.tag(r, name, k));
        counts(r);
        if (random.nextInt(10) == 0) {
            due("rebuild(" + r + ")", bags.rebuild(r), model.rebuild(r));
        }
    }

    private void counts(int r) {
        due("wanted(" + r + ")", bags.wanted(r), model.wanted(r));
        due("checkIns(" + r + ")", bags.checkIns(r), model.checkIns(r));
        due("leaves(" + r + ")", bags.leaves(r), model.leaves(r));
        due("loose(" + r + ")", bags.loose(r), model.loose(r));
    }

    private int callsToAskAll() {
        return 2 * 4 + 5 * (model.held(0) + 1) + 5 * (model.held(1) + 1);
    }

    /** Asks for the whole state at the end of a run, as far as the calls reach. */
    private void askAll() {
        counts(0);
        counts(1);
        for (int r = 0; r < 2; r++) {
            for (int k = 0; k <= model.held(r) && calls + 5 <= CALLS; k++) {
                int name = model.name(r, k);
                due("name(" + r + ", " + k + ")", bags.name(r, k), name);
                due("kind(" + r + ", " + name + ")", bags.kind(r, name), model.kind(r, name));
                due("timeline(" + r + ", " + k + ")", bags.timeline(r, k), model.timeline(r, k));
                due("children(" + r + ", " + name + ")", bags.children(r, name), model.children(r, name));
                due("tag(" + r + ", " + name + ", " + k % 10 + ")", bags.tag(r, name, k % 10), model.tag(r, name, k % 10));
            }
        }
    }
}
