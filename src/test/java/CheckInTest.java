/** Promises 14, 15, 16 and 17: checkIns, timeline, children, leaves. */
public final class CheckInTest {
    public static void main(String[] args) {
        filesMayComeInAnyOrder();
        theDigestMustFit();
        onlyManifestsAreCheckIns();
        eachRepositoryHasItsOwn();
        timelineIsByTimeThenName();
        childrenAreCheckInsWithTheParent();
        leavesHaveNoChildren();
        refusals();
        Check.finish();
    }

    private static String manifest(int time, String parents, int digest, String... files) {
        StringBuilder body = new StringBuilder("D " + time + "\n");
        for (int i = 0; i < files.length; i++) {
            body.append(Texts.file(i, Texts.digest(files[i])));
        }
        return Texts.sealed(body + parents + Texts.line('R', digest));
    }

    private static void filesMayComeInAnyOrder() {
        String text = manifest(3, "", Texts.digest("onetwo!one"), "one", "two!", "one");
        String[][] orders = {{text, "one", "two!"}, {"one", text, "two!"}, {"two!", text, "one"}, {"two!", "one", text}};
        for (String[] order : orders) {
            ArtifactBags x = new ArtifactBags();
            for (int i = 0; i < order.length; i++) {
                Check.due("checkIns(0) too early", x.checkIns(0), 0);
                Check.due("timeline(0, 0) too early", x.timeline(0, 0), -1);
                Texts.put(x, 0, order[i]);
            }
            Check.due("checkIns(0)", x.checkIns(0), 1);
            Check.due("timeline(0, 0)", x.timeline(0, 0), Texts.digest(text));
            Check.due("leaves(0)", x.leaves(0), 1);
            Texts.put(x, 0, "one");
            Texts.put(x, 0, text);
            Texts.put(x, 0, "three");
            Check.due("checkIns(0) at the end", x.checkIns(0), 1);
        }
    }

    private static void theDigestMustFit() {
        ArtifactBags x = new ArtifactBags();
        Texts.put(x, 0, "one");
        Texts.put(x, 0, "two!");
        Texts.put(x, 0, manifest(1, "", Texts.digest("two!one"), "one", "two!"));
        Texts.put(x, 0, manifest(1, "", Texts.digest("one"), "one", "two!"));
        Texts.put(x, 0, manifest(1, "", 7, "one"));
        Texts.put(x, 0, manifest(1, "", 8));
        Check.due("checkIns(0) of wrong digests", x.checkIns(0), 0);
        Texts.put(x, 0, manifest(1, "", 7));
        Check.due("checkIns(0) without files", x.checkIns(0), 1);
        Texts.put(x, 0, manifest(1, "", Texts.digest("two!one"), "two!", "one"));
        Check.due("checkIns(0)", x.checkIns(0), 2);
    }

    private static void onlyManifestsAreCheckIns() {
        ArtifactBags x = new ArtifactBags();
        Texts.put(x, 0, Texts.sealed("D 1\n" + Texts.tag("+1", 7)));
        Texts.put(x, 0, Texts.sealed(Texts.line('M', 7)));
        Texts.put(x, 0, "D 1\n" + Texts.line('R', 7));
        Check.due("checkIns(0)", x.checkIns(0), 0);
        Check.due("leaves(0)", x.leaves(0), 0);
    }

    /** "A" and the three bytes have one name, but with "!" before them not one digest. */
    private static void eachRepositoryHasItsOwn() {
        ArtifactBags x = new ArtifactBags();
        String text = manifest(1, "", Texts.digest("!A"), "!", "A");
        Texts.put(x, 0, "A");
        Texts.put(x, 1, "\u00e8\u001e!");
        for (int r = 0; r < 2; r++) {
            Texts.put(x, r, text);
            Texts.put(x, r, "!");
            Check.due("wanted(" + r + ")", x.wanted(r), 0);
            Check.due("checkIns(" + r + ")", x.checkIns(r), 1 - r);
        }
        Check.due("round(10000)", x.round(10000), 0);
        Check.due("checkIns(1) after a round", x.checkIns(1), 0);
    }

    private static void timelineIsByTimeThenName() {
        ArtifactBags x = new ArtifactBags();
        int[] times = {50, 9, 10, 9999, 0, 9, 100, 9, 10, 2};
        java.util.TreeMap<Long, Integer> due = new java.util.TreeMap<>();
        for (int i = 0; i < times.length; i++) {
            int name = Texts.put(x, 1, Texts.checkIn(times[i], Texts.line('P', i), ""));
            due.put(times[i] * 100000000L + name, name);
        }
        int k = 0;
        for (int name : due.values()) {
            Check.due("timeline(1, " + k + ")", x.timeline(1, k), name);
            k++;
        }
        Check.due("checkIns(1)", x.checkIns(1), k);
        Check.due("timeline(1, " + k + ")", x.timeline(1, k), -1);
        Check.due("timeline(1, -1)", x.timeline(1, -1), -1);
        Check.due("timeline(1, MIN)", x.timeline(1, Integer.MIN_VALUE), -1);
        Check.due("timeline(1, MAX)", x.timeline(1, Integer.MAX_VALUE), -1);
        Check.due("timeline(0, 0)", x.timeline(0, 0), -1);
    }

    private static void childrenAreCheckInsWithTheParent() {
        ArtifactBags x = new ArtifactBags();
        Texts.put(x, 0, Texts.checkIn(1, Texts.line('P', 5), ""));
        Texts.put(x, 0, Texts.checkIn(2, "P aaaaaf aaaaag\n", ""));
        Texts.put(x, 0, Texts.checkIn(2, "P aaaaah aaaaaf\n", ""));
        Texts.put(x, 0, manifest(3, Texts.line('P', 5), Texts.digest("late"), "late"));
        Texts.put(x, 0, Texts.checkIn(4, "", ""));
        Check.due("children(0, 5)", x.children(0, 5), 3);
        Check.due("children(0, 6)", x.children(0, 6), 1);
        Check.due("children(0, 7)", x.children(0, 7), 1);
        Check.due("children(0, 4)", x.children(0, 4), 0);
        Check.due("children(1, 5)", x.children(1, 5), 0);
        Check.due("children(0, -1)", x.children(0, -1), 0);
        Check.due("children(0, MIN)", x.children(0, Integer.MIN_VALUE), 0);
        Check.due("children(0, 16777216)", x.children(0, 16777216), 0);
        Texts.put(x, 0, "late");
        Check.due("children(0, 5) at the end", x.children(0, 5), 4);
    }

    private static void leavesHaveNoChildren() {
        ArtifactBags x = new ArtifactBags();
        String root = Texts.checkIn(1, "", "");
        String left = Texts.checkIn(2, Texts.line('P', Texts.digest(root)), "");
        String right = manifest(3, Texts.line('P', Texts.digest(root)), Texts.digest("late"), "late");
        String merge = Texts.checkIn(4, "P " + Texts.letters(Texts.digest(left)) + " "
                + Texts.letters(Texts.digest(right)) + "\n", "");
        Texts.put(x, 0, left);
        Check.due("leaves(0) of one whose parent is not held", x.leaves(0), 1);
        Texts.put(x, 0, root);
        Check.due("leaves(0) of two", x.leaves(0), 1);
        Texts.put(x, 0, right);
        Check.due("leaves(0) with a manifest that is no check-in", x.leaves(0), 1);
        Texts.put(x, 0, "late");
        Check.due("leaves(0) of a fork", x.leaves(0), 2);
        Check.due("children of the root", x.children(0, Texts.digest(root)), 2);
        Texts.put(x, 0, merge);
        Check.due("leaves(0) of a merge", x.leaves(0), 1);
        Check.due("checkIns(0)", x.checkIns(0), 4);
        Check.due("leaves(1)", x.leaves(1), 0);
    }

    private static void refusals() {
        ArtifactBags x = new ArtifactBags();
        Texts.put(x, 0, Texts.checkIn(1, Texts.line('P', 5), ""));
        Texts.put(x, 1, Texts.checkIn(1, Texts.line('P', 5), ""));
        int[] none = {-1, 2, Integer.MIN_VALUE, Integer.MAX_VALUE};
        for (int repository : none) {
            Check.due("checkIns(" + repository + ")", x.checkIns(repository), -1);
            Check.due("timeline(" + repository + ", 0)", x.timeline(repository, 0), -1);
            Check.due("children(" + repository + ", 5)", x.children(repository, 5), -1);
            Check.due("leaves(" + repository + ")", x.leaves(repository), -1);
        }
    }
}
