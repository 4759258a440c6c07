/** Promises 19 and 20: loose, rebuild. */
public final class LooseAndRebuildTest {
    public static void main(String[] args) {
        clusteredIsWhatAHeldClusterNames();
        rebuildForgetsWhatWasTold();
        rebuildKeepsAllElse();
        rebuildKeepsWhatWasAskedFor();
        refusals();
        Check.finish();
    }

    private static String cluster(int... names) {
        java.util.Arrays.sort(names);
        StringBuilder body = new StringBuilder();
        for (int name : names) {
            body.append(Texts.line('M', name));
        }
        return Texts.sealed(body.toString());
    }

    private static void clusteredIsWhatAHeldClusterNames() {
        ArtifactBags x = new ArtifactBags();
        int a = Texts.put(x, 0, "a");
        int b = Texts.put(x, 0, "b");
        Texts.put(x, 0, "c");
        Check.due("loose(0)", x.loose(0), 3);
        int inner = Texts.put(x, 0, cluster(a, b, 999));
        Check.due("loose(0) with a cluster", x.loose(0), 2);
        Texts.put(x, 0, cluster(a, inner));
        Check.due("loose(0) with a cluster of the cluster", x.loose(0), 2);
        Texts.put(x, 0, Texts.checkIn(1, Texts.line('P', Texts.digest("c")), ""));
        Check.due("loose(0) with a child", x.loose(0), 3);
        Texts.put(x, 1, cluster(Texts.digest("c"), Texts.digest("d")));
        Check.due("loose(0) with a cluster held elsewhere", x.loose(0), 3);
        Check.due("loose(1)", x.loose(1), 1);
        Texts.put(x, 1, "d");
        Check.due("loose(1) when a member comes after its cluster", x.loose(1), 1);
        Texts.put(x, 1, Texts.line('M', Texts.digest("d")));
        Check.due("loose(1) with a plain text", x.loose(1), 2);
    }

    private static void rebuildForgetsWhatWasTold() {
        ArtifactBags x = new ArtifactBags();
        int a = Texts.put(x, 0, "a");
        int b = Texts.put(x, 0, "b");
        Texts.put(x, 1, Texts.sealed("D 1\n" + Texts.file(1, a) + Texts.line('P', 5) + Texts.line('R', 7)));
        Texts.put(x, 1, cluster(6, 7));
        Texts.put(x, 1, Texts.sealed("D 1\n" + Texts.tag("+1", 8)));
        Check.due("round(0)", x.round(0), 0);
        Check.due("wanted(1)", x.wanted(1), 5);
        Check.due("wants(1, b)", x.wants(1, b), true);
        Check.due("rebuild(1)", x.rebuild(1), 0);
        Check.due("wanted(1) after rebuild", x.wanted(1), 4);
        Check.due("wants(1, b) after rebuild", x.wants(1, b), false);
        Check.due("wants(1, a) after rebuild", x.wants(1, a), true);
        Check.due("wants(1, 5) after rebuild", x.wants(1, 5), true);
        Check.due("wants(1, 6) after rebuild", x.wants(1, 6), true);
        Check.due("wants(1, 8) after rebuild", x.wants(1, 8), false);
        Check.due("wanted(0)", x.wanted(0), 3);
        Check.due("rebuild(0)", x.rebuild(0), 0);
        Check.due("wanted(0) after rebuild", x.wanted(0), 0);
        Check.due("round(0) again", x.round(0), 0);
        Check.due("wanted(1) when told again", x.wanted(1), 5);
    }

    private static void rebuildKeepsAllElse() {
        ArtifactBags x = new ArtifactBags();
        int file = Texts.put(x, 0, "one");
        int first = Texts.put(x, 0, Texts.sealed("D 5\n" + Texts.file(1, file) + Texts.line('R', file) + "T +1 *\n"));
        int second = Texts.put(x, 0, Texts.checkIn(4, Texts.line('P', first), ""));
        Texts.put(x, 0, Texts.sealed("D 6\n" + Texts.tag("-1", first)));
        Texts.put(x, 0, cluster(file, second));
        Texts.write(x, "draft");
        for (int turn = 0; turn < 3; turn++) {
            Check.due("rebuild(0)", x.rebuild(0), 2);
            Check.due("checkIns(0)", x.checkIns(0), 2);
            Check.due("timeline(0, 0)", x.timeline(0, 0), second);
            Check.due("timeline(0, 1)", x.timeline(0, 1), first);
            Check.due("timeline(0, 2)", x.timeline(0, 2), -1);
            Check.due("children(0, first)", x.children(0, first), 1);
            Check.due("leaves(0)", x.leaves(0), 1);
            Check.due("tag(0, first, 1)", x.tag(0, first, 1), 0);
            Check.due("loose(0)", x.loose(0), 3);
            Check.due("held(0)", x.held(0), 5);
            Check.due("wanted(0)", x.wanted(0), 0);
            Texts.dueHeld(x, 0, "one");
        }
        Check.due("put after rebuild", x.put(0), Texts.digest("draft"));
    }

    private static void rebuildKeepsWhatWasAskedFor() {
        ArtifactBags x = new ArtifactBags();
        int a = Texts.put(x, 0, "a");
        Check.due("round(0)", x.round(0), 0);
        Check.due("wants(1, a)", x.wants(1, a), true);
        Check.due("rebuild(0)", x.rebuild(0), 0);
        Check.due("rebuild(1)", x.rebuild(1), 0);
        Check.due("wants(1, a) after rebuild", x.wants(1, a), false);
        Check.due("round(1), as 1 asked for a before", x.round(1), 1);
        Check.due("held(1)", x.held(1), 1);
    }

    private static void refusals() {
        ArtifactBags x = new ArtifactBags();
        Texts.put(x, 0, "a");
        Texts.put(x, 1, "b");
        x.round(0);
        int[] none = {-1, 2, Integer.MIN_VALUE, Integer.MAX_VALUE};
        for (int repository : none) {
            Check.due("loose(" + repository + ")", x.loose(repository), -1);
            Check.due("rebuild(" + repository + ")", x.rebuild(repository), -1);
        }
        Check.due("wanted(0) after the refusals", x.wanted(0), 1);
        Check.due("wanted(1) after the refusals", x.wanted(1), 1);
    }
}
