/** Promise 7: round. */
public final class RoundTest {
    public static void main(String[] args) {
        zeroAsksAndIsAnsweredInOneRound();
        oneIsAnsweredARoundLater();
        budgetSkipsWhatIsTooLong();
        budgetIsWholeForEachMessage();
        sentButNotTaken();
        noRoom();
        lastRoomGoesToTheLeastName();
        askedBeforeItWasHeld();
        askedIsReplaced();
        clustersAreMadeOfMoreThanFive();
        clustersHaveTheTwentyLeast();
        noClusterWithoutRoom();
        noClusterTwice();
        bothMakeClustersFirst();
        clusteredNamesAreNotTold();
        refusals();
        Check.finish();
    }

    private static void zeroAsksAndIsAnsweredInOneRound() {
        ArtifactBags x = new ArtifactBags();
        int file = Texts.put(x, 1, "one");
        Texts.put(x, 0, Texts.sealed("D 1\n" + Texts.file(1, file) + Texts.line('R', file)));
        Check.due("round(10000)", x.round(10000), 1);
        Texts.dueHeld(x, 0, "one");
        Check.due("checkIns(0)", x.checkIns(0), 1);
        Check.due("wanted(0)", x.wanted(0), 0);
        Check.due("wanted(1)", x.wanted(1), 1);
    }

    private static void oneIsAnsweredARoundLater() {
        ArtifactBags x = new ArtifactBags();
        int file = Texts.put(x, 0, "one");
        Texts.put(x, 1, Texts.sealed("D 1\n" + Texts.file(1, file) + Texts.line('R', file)));
        Check.due("round(10000)", x.round(10000), 0);
        Check.due("checkIns(1)", x.checkIns(1), 0);
        Check.due("wanted(0)", x.wanted(0), 1);
        Check.due("round(10000), 2nd", x.round(10000), 2);
        Check.due("checkIns(1) then", x.checkIns(1), 1);
        Check.due("checkIns(0) then", x.checkIns(0), 1);
        Check.due("round(10000), 3rd", x.round(10000), 0);
    }

    private static void budgetSkipsWhatIsTooLong() {
        ArtifactBags x = new ArtifactBags();
        int[] lengths = {2, 5, 1, 4, 3};
        java.util.TreeMap<Integer, Integer> byName = new java.util.TreeMap<>();
        for (int length : lengths) {
            byName.put(Texts.put(x, 0, "k".repeat(length)), length);
        }
        Check.due("round(0)", x.round(0), 0);
        for (int budget = 7; x.held(1) < 5 && budget > 0; budget--) {
            int left = budget;
            int sent = 0;
            for (int name : byName.keySet()) {
                if (x.kind(1, name) == -1 && byName.get(name) <= left) {
                    left -= byName.get(name);
                    sent++;
                }
            }
            int held = x.held(1);
            Check.due("round(" + budget + ")", x.round(budget), sent);
            Check.due("held(1)", x.held(1), held + sent);
        }
        ArtifactBags y = new ArtifactBags();
        Texts.put(y, 0, "k");
        y.round(0);
        Check.due("round(0) when one is asked for", y.round(0), 0);
        Check.due("round of just its length", y.round(1), 1);
    }

    private static void budgetIsWholeForEachMessage() {
        ArtifactBags x = new ArtifactBags();
        Texts.put(x, 0, "abc");
        Texts.put(x, 1, "xyz");
        Check.due("round(2)", x.round(2), 0);
        Check.due("round(2), 2nd", x.round(2), 0);
        Check.due("round(3)", x.round(3), 2);
        Texts.dueHeld(x, 0, "xyz");
        Texts.dueHeld(x, 1, "abc");
    }

    private static void sentButNotTaken() {
        ArtifactBags x = new ArtifactBags();
        Texts.put(x, 0, "A");
        Check.due("round(0)", x.round(0), 0);
        Texts.put(x, 1, "\u00e8\u001e!");
        Check.due("round(3)", x.round(3), 1);
        Texts.dueHeld(x, 1, "\u00e8\u001e!");
        Check.due("round(3), 2nd", x.round(3), 0);
    }

    private static void fill(ArtifactBags x, int repository, int count) {
        for (int i = 0; i < count; i++) {
            Texts.put(x, repository, "fill" + repository + i);
        }
    }

    private static void noRoom() {
        ArtifactBags x = new ArtifactBags();
        fill(x, 1, 32);
        int a = Texts.put(x, 0, "a");
        Check.due("round(0)", x.round(0), 0);
        Check.due("round(1)", x.round(1), 1);
        Check.due("held(1)", x.held(1), 32);
        Check.due("wants(1, a)", x.wants(1, a), true);
        Check.due("round(1) again", x.round(1), 1);
        Check.due("octet(1, a, 0)", x.octet(1, a, 0), -1);
    }

    private static void lastRoomGoesToTheLeastName() {
        ArtifactBags x = new ArtifactBags();
        fill(x, 1, 31);
        int a = Texts.put(x, 0, "a");
        int b = Texts.put(x, 0, "b");
        Check.due("round(0), which makes a cluster in the last room", x.round(0), 0);
        Check.due("held(1)", x.held(1), 32);
        ArtifactBags y = new ArtifactBags();
        fill(y, 1, 29);
        Texts.put(y, 0, "b");
        Texts.put(y, 0, "a");
        Texts.put(y, 0, "c");
        Check.due("round(0)", y.round(0), 0);
        Check.due("held(1) with a cluster", y.held(1), 30);
        Check.due("round(3)", y.round(3), 3);
        Check.due("held(1) with one more cluster, and one taken", y.held(1), 32);
        Check.due("kind(1, a)", y.kind(1, a), 0);
        Check.due("kind(1, b)", y.kind(1, b), -1);
        Check.due("wants(1, b)", y.wants(1, b), true);
        Check.due("wants(1, a)", y.wants(1, a), false);
    }

    private static void askedBeforeItWasHeld() {
        ArtifactBags x = new ArtifactBags();
        int late = Texts.digest("late");
        Texts.put(x, 1, Texts.checkIn(1, Texts.line('P', late), ""));
        Check.due("round(0)", x.round(0), 0);
        Texts.put(x, 0, "late");
        Check.due("round(4)", x.round(4), 1);
        Texts.dueHeld(x, 1, "late");
    }

    private static void askedIsReplaced() {
        ArtifactBags x = new ArtifactBags();
        int a = Texts.put(x, 0, "a");
        Check.due("round(0)", x.round(0), 0);
        Texts.put(x, 1, "a");
        Check.due("round(0), in which 1 asks for nothing", x.round(0), 0);
        Check.due("round(1)", x.round(1), 0);
        Check.due("wants(1, a)", x.wants(1, a), false);
    }

    private static String clusterOf(java.util.SortedSet<Integer> names, int most) {
        StringBuilder body = new StringBuilder();
        int taken = 0;
        for (int name : names) {
            if (taken < most) {
                body.append(Texts.line('M', name));
                taken++;
            }
        }
        return Texts.sealed(body.toString());
    }

    private static void clustersAreMadeOfMoreThanFive() {
        ArtifactBags x = new ArtifactBags();
        java.util.TreeSet<Integer> names = new java.util.TreeSet<>();
        for (int i = 0; i < 5; i++) {
            names.add(Texts.put(x, 1, "five" + i));
        }
        Check.due("round(0) with five", x.round(0), 0);
        Check.due("held(1) with five", x.held(1), 5);
        Check.due("wanted(0) with five", x.wanted(0), 5);
        names.add(Texts.put(x, 1, "six"));
        Check.due("round(0) with six", x.round(0), 0);
        Check.due("held(1) with six", x.held(1), 7);
        String cluster = clusterOf(names, 20);
        Texts.dueHeld(x, 1, cluster);
        Check.due("kind of the cluster", x.kind(1, Texts.digest(cluster)), 3);
        Check.due("loose(1)", x.loose(1), 1);
        Check.due("wanted(1)", x.wanted(1), 0);
        Check.due("wanted(0) with the cluster told", x.wanted(0), 6);
    }

    private static void clustersHaveTheTwentyLeast() {
        ArtifactBags x = new ArtifactBags();
        java.util.TreeSet<Integer> names = new java.util.TreeSet<>();
        for (int i = 0; i < 27; i++) {
            names.add(Texts.put(x, 0, "many" + i * 7));
        }
        Check.due("round(0)", x.round(0), 0);
        String first = clusterOf(names, 20);
        Texts.dueHeld(x, 0, first);
        Check.due("held(0)", x.held(0), 28);
        Check.due("loose(0)", x.loose(0), 8);
        Check.due("wanted(1)", x.wanted(1), 8);
        for (int i = 0; i < 20; i++) {
            names.pollFirst();
        }
        names.add(Texts.digest(first));
        Check.due("round(0), 2nd", x.round(0), 0);
        Texts.dueHeld(x, 0, clusterOf(names, 20));
        Check.due("loose(0), 2nd", x.loose(0), 1);
        Check.due("round(0), 3rd", x.round(0), 0);
        Check.due("held(0), 3rd", x.held(0), 29);
    }

    private static void noClusterWithoutRoom() {
        ArtifactBags x = new ArtifactBags();
        fill(x, 0, 32);
        Check.due("round(0)", x.round(0), 0);
        Check.due("held(0)", x.held(0), 32);
        Check.due("loose(0)", x.loose(0), 32);
        Check.due("wanted(1)", x.wanted(1), 32);
    }

    /** A cluster of its own making is told, taken, and not made once more. */
    private static void noClusterTwice() {
        ArtifactBags x = new ArtifactBags();
        fill(x, 0, 6);
        for (int i = 0; i < 6; i++) {
            Texts.put(x, 1, "fill0" + i);
        }
        Check.due("round(10000)", x.round(10000), 0);
        Check.due("held(0)", x.held(0), 7);
        Check.due("held(1)", x.held(1), 7);
        Check.due("wanted(0)", x.wanted(0), 0);
        Check.due("wanted(1)", x.wanted(1), 0);
        Check.due("round(10000), 2nd", x.round(10000), 0);
        Check.due("held(0), 2nd", x.held(0), 7);
    }

    /** If 1 made its cluster only after taking, it would gather what 0 sends too. */
    private static void bothMakeClustersFirst() {
        ArtifactBags x = new ArtifactBags();
        fill(x, 1, 5);
        Texts.put(x, 0, "a");
        x.round(0);
        Check.due("round(1)", x.round(1), 1);
        Check.due("held(1)", x.held(1), 6);
        Check.due("loose(1)", x.loose(1), 6);
        Check.due("wanted(0)", x.wanted(0), 5);
        Check.due("round(0)", x.round(0), 0);
        Check.due("held(1) then", x.held(1), 7);
        Check.due("loose(1) then", x.loose(1), 1);
        Check.due("wanted(0) then", x.wanted(0), 6);
    }

    private static void clusteredNamesAreNotTold() {
        ArtifactBags x = new ArtifactBags();
        int a = Texts.put(x, 0, "a");
        int cluster = Texts.put(x, 0, Texts.sealed(Texts.line('M', a)));
        Check.due("round(0)", x.round(0), 0);
        Check.due("wanted(1)", x.wanted(1), 1);
        Check.due("wants(1, cluster)", x.wants(1, cluster), true);
        Check.due("round(240)", x.round(240), 1);
        Check.due("wants(1, a)", x.wants(1, a), true);
        Check.due("round(240), 2nd", x.round(240), 1);
        Check.due("wanted(1) at the end", x.wanted(1), 0);
    }

    private static void refusals() {
        ArtifactBags x = new ArtifactBags();
        fill(x, 0, 6);
        int[] noBudgets = {-1, 10001, Integer.MIN_VALUE, Integer.MAX_VALUE};
        for (int budget : noBudgets) {
            Check.due("round(" + budget + ")", x.round(budget), -1);
        }
        Check.due("held(0) after the refusals", x.held(0), 6);
        Check.due("wanted(1) after the refusals", x.wanted(1), 0);
        Texts.write(x, "draft");
        Check.due("round(0)", x.round(0), 0);
        Check.due("the draft after a round", x.drop(), 5);
    }
}
