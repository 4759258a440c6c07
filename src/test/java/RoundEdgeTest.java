import java.util.ArrayList;
import java.util.List;
import java.util.TreeSet;

/** The boundary cases of A ROUND, A MESSAGE and TAKING it, for both repositories. */
public final class RoundEdgeTest {
    public static void main(String[] args) {
        budgetsOfARound();
        for (int r = 0; r < 2; r++) {
            fiveAndSixLoose(r);
            fiveLooseAndSomeClustered(r);
            twentyAndTwentyOneLoose(r);
            roomForTheCluster(r);
            oneOfThatNameIsHeld(r);
            justTheBytesThatAreLeft(r);
            manyLongRows(r);
            lastRoomForWhatIsSent(r);
            heldAlready(r);
            toldAndSentInOneMessage(r);
            askedIsReplaced(r);
            askedButHeldLater(r);
        }
        sentButNotTaken();
        nothingIsAskedForAtFirst();
        eachMessageHasTheWholeBudget();
        whatIsTakenIsFollowedInTheSameRound();
        bothClustersComeBeforeTheMessages();
        Check.finish();
    }

    /** Puts rows of 4 bytes with the names first, first + 10, ..; the greatest is put first. */
    private static void putLoose(ArtifactBags x, int r, int first, int count) {
        for (int i = count - 1; i >= 0; i--) {
            Texts.put(x, r, Texts.named(first + 10 * i, 4));
        }
    }

    private static String clusterOf(int first, int count) {
        StringBuilder body = new StringBuilder();
        for (int i = 0; i < count; i++) {
            body.append(Texts.line('M', first + 10 * i));
        }
        return Texts.sealed(body.toString());
    }

    private static void dueCounts(ArtifactBags x, int r, int held, int loose, int wanted) {
        Check.due("held(" + r + ")", x.held(r), held);
        Check.due("loose(" + r + ")", x.loose(r), loose);
        Check.due("wanted(" + r + ")", x.wanted(r), wanted);
    }

    /** "NONE when budget is not 0 .. 10000" */
    private static void budgetsOfARound() {
        int[] budgets = {Integer.MIN_VALUE, -10000, -1, 0, 1, 9999, 10000, 10001, Integer.MAX_VALUE};
        for (int budget : budgets) {
            boolean good = budget >= 0 && budget <= 10000;
            ArtifactBags x = new ArtifactBags();
            Texts.put(x, 0, "a");
            putLoose(x, 1, 100, 6);
            Check.due("round(" + budget + ")", x.round(budget), good ? 0 : -1);
            dueCounts(x, 0, 1, 1, good ? 1 : 0);
            dueCounts(x, 1, good ? 7 : 6, good ? 1 : 6, good ? 1 : 0);
            // What 0 asked for in a round is sent in it; what 1 asked for, in the one behind.
            Check.due("round(1) behind it", x.round(1), good ? 1 : 0);
        }
    }

    /** "each repository with more than five held artifacts that are not clustered makes a cluster of these" */
    private static void fiveAndSixLoose(int r) {
        for (int count = 4; count <= 7; count++) {
            ArtifactBags x = new ArtifactBags();
            putLoose(x, r, 100, count);
            Check.due("round(0) of " + count, x.round(0), 0);
            boolean more = count > 5;
            dueCounts(x, r, more ? count + 1 : count, more ? 1 : count, 0);
            String cluster = clusterOf(100, count);
            Check.due("kind of the cluster of " + count, x.kind(r, Texts.digest(cluster)), more ? 3 : -1);
            if (more) {
                Texts.dueHeld(x, r, cluster);
            }
            Check.due("wanted by the other one of " + count, x.wanted(1 - r), more ? 1 : count);
            Check.due("whether it wants the cluster", x.wants(1 - r, Texts.digest(cluster)), more);
            Check.due("whether it wants the first", x.wants(1 - r, 100), !more);
        }
    }

    /** What is clustered is not counted; a cluster that no cluster names is. */
    private static void fiveLooseAndSomeClustered(int r) {
        ArtifactBags x = new ArtifactBags();
        putLoose(x, r, 100, 3);
        int cluster = Texts.put(x, r, clusterOf(100, 3));
        putLoose(x, r, 500, 4);
        dueCounts(x, r, 8, 5, 0);
        Check.due("round(0) with five loose", x.round(0), 0);
        dueCounts(x, r, 8, 5, 0);
        Check.due("wanted by the other one", x.wanted(1 - r), 5);
        Check.due("whether it wants the cluster", x.wants(1 - r, cluster), true);
        Check.due("whether it wants what is clustered", x.wants(1 - r, 100), false);
        putLoose(x, r, 900, 1);
        Check.due("round(0) with six loose", x.round(0), 0);
        dueCounts(x, r, 10, 1, 0);
    }

    /** "of these, or of the twenty of them with the least names: one M card for each, by growing names" */
    private static void twentyAndTwentyOneLoose(int r) {
        for (int count = 19; count <= 22; count++) {
            ArtifactBags x = new ArtifactBags();
            putLoose(x, r, 100, count);
            Check.due("round(0) of " + count, x.round(0), 0);
            int most = Math.min(count, 20);
            dueCounts(x, r, count + 1, count - most + 1, 0);
            Texts.dueHeld(x, r, clusterOf(100, most));
            Check.due("wanted by the other one", x.wanted(1 - r), count - most + 1);
            for (int i = 18; i < count; i++) {
                Check.due("whether it wants the one of number " + i, x.wants(1 - r, 100 + 10 * i), i >= 20);
            }
        }
    }

    /** "(if the repository holds 32 artifacts, .. nothing comes of it)" */
    private static void roomForTheCluster(int r) {
        for (int count = 30; count <= 32; count++) {
            ArtifactBags x = new ArtifactBags();
            putLoose(x, r, 100, count);
            Check.due("round(0) of " + count, x.round(0), 0);
            boolean room = count < 32;
            dueCounts(x, r, room ? count + 1 : 32, room ? count - 19 : 32, 0);
            Check.due("wanted by the other one", x.wanted(1 - r), room ? count - 19 : 32);
            Check.due("kind of the cluster", x.kind(r, Texts.digest(clusterOf(100, 20))), room ? 3 : -1);
            Check.due("the draft after the round", x.drop(), 0);
            // The second cluster of 30 is the 32nd artifact; that of 31 would be the 33rd.
            Check.due("round(0) again", x.round(0), 0);
            dueCounts(x, r, 32, count == 30 ? 1 : count == 31 ? 12 : 32, 0);
        }
    }

    /** "(if the repository holds .. one of that name, nothing comes of it)": a row of other bytes has the cluster's name. */
    private static void oneOfThatNameIsHeld(int r) {
        int name = Texts.digest(clusterOf(100, 20));
        int[] off = {-1, 0, 1};
        for (int step : off) {
            ArtifactBags x = new ArtifactBags();
            putLoose(x, r, 100, 20);
            Texts.put(x, r, Texts.named(name + step, 4));
            Check.due("whether the row is behind the twenty least", name + step > 100 + 10 * 19, true);
            Check.due("round(0)", x.round(0), 0);
            boolean same = step == 0;
            dueCounts(x, r, same ? 21 : 22, same ? 21 : 2, 0);
            Check.due("wanted by the other one", x.wanted(1 - r), same ? 21 : 2);
            Check.due("kind of what has the name", x.kind(r, name), same ? 0 : 3);
            Texts.dueHeld(x, r, Texts.named(name + step, 4));
            Check.due("round(0) again", x.round(0), 0);
            dueCounts(x, r, same ? 21 : 22, same ? 21 : 2, 0);
        }
    }

    /** Lets repository r ask for three rows of 10, 7 and 5 bytes that the other one holds, with growing names. */
    private static ArtifactBags threeAskedFor(int r) {
        ArtifactBags x = new ArtifactBags();
        Texts.put(x, 1 - r, Texts.named(300, 5));
        Texts.put(x, 1 - r, Texts.named(200, 7));
        Texts.put(x, 1 - r, Texts.named(100, 10));
        Texts.put(x, r, Texts.sealed(Texts.line('M', 100) + Texts.line('M', 200) + Texts.line('M', 300)));
        if (r == 1) {
            // 0 asks and is answered in one round; 1 must have asked in a round before.
            Check.due("round(0)", x.round(0), 0);
        }
        return x;
    }

    /**
     * "one is sent if its bytes are not more than what is left of the budget, which becomes less by them (those behind
     * one that is not sent are looked at, too)"
     */
    private static void justTheBytesThatAreLeft(int r) {
        int[][] dues = {{0}, {1}, {4}, {5, 300}, {6, 300}, {7, 200}, {8, 200}, {9, 200}, {10, 100}, {11, 100}, {14, 100},
            {15, 100, 300}, {16, 100, 300}, {17, 100, 200}, {18, 100, 200}, {21, 100, 200}, {22, 100, 200, 300},
            {23, 100, 200, 300}};
        for (int[] due : dues) {
            ArtifactBags x = threeAskedFor(r);
            Check.due("round(" + due[0] + ") to " + r, x.round(due[0]), due.length - 1);
            List<Integer> sent = new ArrayList<>();
            for (int i = 1; i < due.length; i++) {
                sent.add(due[i]);
            }
            for (int name = 100; name <= 300; name += 100) {
                Check.due("kind(" + r + ", " + name + ") of budget " + due[0], x.kind(r, name), sent.contains(name) ? 0 : -1);
                Check.due("wants(" + r + ", " + name + ") of budget " + due[0], x.wants(r, name), !sent.contains(name));
            }
        }
    }

    /** Twenty rows of the greatest length: 4800 bytes, about as many as the calls of one object can write. */
    private static void manyLongRows(int r) {
        int[][] dues = {{239, 0}, {240, 1}, {479, 1}, {480, 2}, {4799, 19}, {4800, 20}, {9999, 20}, {10000, 20}};
        for (int[] due : dues) {
            ArtifactBags x = twentyLongRowsAskedFor(r);
            Check.due("round(10001)", x.round(10001), -1);
            Check.due("round(" + due[0] + ") to " + r, x.round(due[0]), due[1]);
            Check.due("held(" + r + ")", x.held(r), due[1] + 1);
            Check.due("wanted(" + r + ")", x.wanted(r), 20 - due[1]);
        }
    }

    private static ArtifactBags twentyLongRowsAskedFor(int r) {
        ArtifactBags x = new ArtifactBags();
        TreeSet<Integer> names = new TreeSet<>();
        for (int i = 0; i < 20; i++) {
            // Cards of two parents are the longest that one call writes.
            for (int j = 0; j < 15; j++) {
                Check.due("card(3, ..)", x.card(3, i, 16777215 - j), 16 * (j + 1));
            }
            names.add(x.put(1 - r));
        }
        StringBuilder body = new StringBuilder();
        for (int name : names) {
            body.append(Texts.line('M', name));
        }
        Texts.put(x, r, Texts.sealed(body.toString()));
        Check.due("wanted(" + r + ")", x.wanted(r), 20);
        if (r == 1) {
            Check.due("round(0)", x.round(0), 0);
        }
        return x;
    }

    /** "its artifacts are held from now on, by growing names (.. nor one for which there is no room)" */
    private static void lastRoomForWhatIsSent(int r) {
        for (int room = 0; room <= 3; room++) {
            ArtifactBags x = new ArtifactBags();
            putLoose(x, 1 - r, 5000, 2);
            Texts.put(x, r, clusterOf(5000, 2));
            Check.due("wanted(" + r + ")", x.wanted(r), 2);
            Check.due("round(0)", x.round(0), 0);
            // The cluster that the round makes of these takes one place more.
            putLoose(x, r, 100000, 30 - room);
            Check.due("round(8) with room for " + room, x.round(8), 2);
            Check.due("held(" + r + ") with room for " + room, x.held(r), 32 - room + Math.min(room, 2));
            Check.due("kind(" + r + ", 5000)", x.kind(r, 5000), room > 0 ? 0 : -1);
            Check.due("kind(" + r + ", 5010)", x.kind(r, 5010), room > 1 ? 0 : -1);
            Check.due("wants(" + r + ", 5000)", x.wants(r, 5000), room == 0);
            Check.due("wants(" + r + ", 5010)", x.wants(r, 5010), room <= 1);
        }
    }

    /** "(one that is held already isn't taken ..)": it is sent and counts, but the bytes stay. */
    private static void heldAlready(int r) {
        ArtifactBags x = new ArtifactBags();
        Texts.put(x, 1 - r, Texts.named(100, 4));
        Check.due("round(0)", x.round(0), 0);
        Texts.put(x, r, Texts.named(100, 6));
        // What 1 asked for a round ago is sent; 0 asks anew before it is answered.
        Check.due("round(4)", x.round(4), r);
        Texts.dueHeld(x, r, Texts.named(100, 6));
        Texts.dueHeld(x, 1 - r, Texts.named(100, 4));
        dueCounts(x, r, 1, 1, 0);
        Check.due("round(4) again", x.round(4), 0);
    }

    /** What is sent costs its bytes and is counted, even if it is not taken. */
    private static void sentButNotTaken() {
        for (int budget = 3; budget <= 8; budget++) {
            ArtifactBags x = new ArtifactBags();
            putLoose(x, 0, 100, 2);
            Check.due("round(0)", x.round(0), 0);
            Texts.put(x, 1, Texts.named(100, 4));
            Check.due("round(" + budget + ")", x.round(budget), budget / 4);
            Check.due("kind(1, 110)", x.kind(1, 110), budget < 8 ? -1 : 0);
        }
    }

    /** "first its artifacts are held ..; then the names told that aren't held are wanted" */
    private static void toldAndSentInOneMessage(int r) {
        ArtifactBags x = new ArtifactBags();
        putLoose(x, 1 - r, 100, 2);
        Check.due("round(0)", x.round(0), 0);
        Check.due("wanted(" + r + ")", x.wanted(r), 2);
        Check.due("round(4)", x.round(4), 1);
        Check.due("wants(" + r + ", 100), sent and told", x.wants(r, 100), false);
        Check.due("wants(" + r + ", 110), told", x.wants(r, 110), true);
        dueCounts(x, r, 1, 1, 1);
    }

    /** "what it asks for is remembered, instead of what was asked for before" */
    private static void askedIsReplaced(int r) {
        ArtifactBags x = new ArtifactBags();
        putLoose(x, 1 - r, 100, 1);
        Check.due("round(0)", x.round(0), 0);
        Check.due("round(0), in which it is asked for", x.round(0), 0);
        Texts.put(x, r, Texts.named(100, 4));
        Check.due("round(0), in which it is asked for no more", x.round(0), 0);
        Check.due("round(10000)", x.round(10000), 0);
        ArtifactBags y = new ArtifactBags();
        putLoose(y, 1 - r, 100, 1);
        Check.due("round(0)", y.round(0), 0);
        Check.due("round(0), in which it is asked for", y.round(0), 0);
        // Clustered now, it is not told again once it is forgotten.
        Texts.put(y, 1 - r, Texts.sealed(Texts.line('M', 100)));
        Check.due("rebuild(" + r + ")", y.rebuild(r), 0);
        Check.due("round(3), in which the cluster is told", y.round(3), 0);
        Check.due("round(4), in which just the cluster is asked for", y.round(4), 0);
        Check.due("kind(" + r + ", 100)", y.kind(r, 100), -1);
    }

    /** "those names that the other one asked for in its last message and that are held": held when the message is made */
    private static void askedButHeldLater(int r) {
        ArtifactBags x = new ArtifactBags();
        Texts.put(x, r, Texts.sealed(Texts.line('M', 100)));
        Check.due("wants(" + r + ", 100)", x.wants(r, 100), true);
        Check.due("round(4)", x.round(4), 0);
        Texts.put(x, 1 - r, Texts.named(100, 4));
        Check.due("round(3)", x.round(3), 0);
        Check.due("round(4) when it is held", x.round(4), 1);
        Texts.dueHeld(x, r, Texts.named(100, 4));
    }

    /** "(At the beginning nothing was asked for.)": 0 sends nothing in the first round, whatever 1 wants. */
    private static void nothingIsAskedForAtFirst() {
        ArtifactBags x = new ArtifactBags();
        putLoose(x, 0, 100, 1);
        putLoose(x, 1, 200, 1);
        Texts.put(x, 1, Texts.sealed(Texts.line('M', 100)));
        Texts.put(x, 0, Texts.sealed(Texts.line('M', 200)));
        Check.due("wants(1, 100)", x.wants(1, 100), true);
        Check.due("wants(0, 200)", x.wants(0, 200), true);
        Check.due("round(4): just what 0 asks for is sent", x.round(4), 1);
        Check.due("kind(0, 200)", x.kind(0, 200), 0);
        Check.due("kind(1, 100)", x.kind(1, 100), -1);
        Check.due("round(4), 2nd", x.round(4), 1);
        Check.due("kind(1, 100), 2nd", x.kind(1, 100), 0);
    }

    /** "each message has the whole budget at first" */
    private static void eachMessageHasTheWholeBudget() {
        for (int budget = 8; budget <= 10; budget++) {
            ArtifactBags x = new ArtifactBags();
            Texts.put(x, 0, Texts.named(100, 9));
            Texts.put(x, 1, Texts.named(200, 9));
            Check.due("round(0)", x.round(0), 0);
            Check.due("round(" + budget + ")", x.round(budget), budget < 9 ? 0 : 2);
            Check.due("held(0)", x.held(0), budget < 9 ? 1 : 2);
            Check.due("held(1)", x.held(1), budget < 9 ? 1 : 2);
            Check.due("round(9) behind it", x.round(9), budget < 9 ? 2 : 0);
        }
    }

    /** 1 takes a manifest and asks for its file in the same round. */
    private static void whatIsTakenIsFollowedInTheSameRound() {
        ArtifactBags x = new ArtifactBags();
        String manifest = Texts.sealed("D 1\n" + Texts.file(1, 100) + Texts.line('R', 100));
        Texts.put(x, 0, manifest);
        Texts.put(x, 0, Texts.named(100, 4));
        Texts.put(x, 0, Texts.sealed(Texts.line('M', 100)));
        Check.due("round(0)", x.round(0), 0);
        Check.due("wants(1, 100), which is clustered", x.wants(1, 100), false);
        Check.due("wanted(1)", x.wanted(1), 2);
        Check.due("round(10000)", x.round(10000), 2);
        Check.due("wants(1, 100)", x.wants(1, 100), true);
        Check.due("checkIns(1)", x.checkIns(1), 0);
        Check.due("wanted(0)", x.wanted(0), 0);
        Check.due("round(4)", x.round(4), 1);
        Check.due("checkIns(1) then", x.checkIns(1), 1);
        Check.due("loose(1)", x.loose(1), 2);
    }

    /** "First each repository .. makes a cluster ..": 1 does so before it takes the message of 0. */
    private static void bothClustersComeBeforeTheMessages() {
        ArtifactBags x = new ArtifactBags();
        putLoose(x, 0, 100, 6);
        putLoose(x, 1, 500, 6);
        Check.due("round(0)", x.round(0), 0);
        dueCounts(x, 0, 7, 1, 1);
        dueCounts(x, 1, 7, 1, 1);
        Check.due("wants(0, the cluster of 1)", x.wants(0, Texts.digest(clusterOf(500, 6))), true);
        Check.due("wants(1, the cluster of 0)", x.wants(1, Texts.digest(clusterOf(100, 6))), true);
        Check.due("wants(0, 500)", x.wants(0, 500), false);
        Check.due("wants(1, 100)", x.wants(1, 100), false);
    }
}
