/** Promises 12 and 13: wanted, wants. */
public final class WantedTest {
    public static void main(String[] args) {
        manifestsWantFilesAndParents();
        clustersWantMembers();
        othersWantNothing();
        whatIsHeldIsNotWanted();
        manyNames();
        toldNamesAreWanted();
        refusals();
        Check.finish();
    }

    private static void manifestsWantFilesAndParents() {
        ArtifactBags x = new ArtifactBags();
        Texts.put(x, 0, Texts.sealed("D 1\n" + Texts.file(1, 11) + Texts.file(2, 12) + Texts.file(3, 11)
                + "P aaaaan aaaaao\n" + Texts.line('R', 15) + "T +1 *\n"));
        Check.due("wanted(0)", x.wanted(0), 4);
        for (int name = 10; name < 17; name++) {
            Check.due("wants(0, " + name + ")", x.wants(0, name), name >= 11 && name <= 14);
        }
        Check.due("wanted(1)", x.wanted(1), 0);
        Check.due("wants(1, 11)", x.wants(1, 11), false);
        Texts.put(x, 0, Texts.checkIn(2, Texts.line('P', 20), ""));
        Check.due("wanted(0) with one parent", x.wanted(0), 5);
        Check.due("wants(0, 20)", x.wants(0, 20), true);
    }

    private static void clustersWantMembers() {
        ArtifactBags x = new ArtifactBags();
        Texts.put(x, 1, Texts.sealed(Texts.line('M', 0) + Texts.line('M', 5) + Texts.line('M', 16777215)));
        Texts.put(x, 1, Texts.sealed(Texts.line('M', 5) + Texts.line('M', 6)));
        Check.due("wanted(1)", x.wanted(1), 4);
        Check.due("wants(1, 0)", x.wants(1, 0), true);
        Check.due("wants(1, 5)", x.wants(1, 5), true);
        Check.due("wants(1, 6)", x.wants(1, 6), true);
        Check.due("wants(1, 16777215)", x.wants(1, 16777215), true);
        Check.due("wants(1, 7)", x.wants(1, 7), false);
    }

    private static void othersWantNothing() {
        ArtifactBags x = new ArtifactBags();
        Texts.put(x, 0, Texts.sealed("D 1\n" + Texts.tag("+1", 11)));
        Texts.put(x, 0, "D 1\n" + Texts.file(1, 11) + Texts.line('R', 7));
        Texts.put(x, 0, Texts.line('M', 11));
        Texts.put(x, 0, Texts.sealed(Texts.line('M', 12) + Texts.line('M', 11)));
        Check.due("wanted(0)", x.wanted(0), 0);
        Check.due("wants(0, 11)", x.wants(0, 11), false);
    }

    private static void whatIsHeldIsNotWanted() {
        ArtifactBags x = new ArtifactBags();
        int one = Texts.digest("one");
        int two = Texts.digest("two!");
        Texts.put(x, 0, "one");
        Texts.put(x, 0, Texts.sealed(Texts.line('M', two) + Texts.line('M', one)));
        Check.due("wanted(0)", x.wanted(0), 1);
        Check.due("wants(0, one)", x.wants(0, one), false);
        Check.due("wants(0, two)", x.wants(0, two), true);
        Texts.put(x, 1, "two!");
        Check.due("wanted(0) while the other one holds it", x.wanted(0), 1);
        Texts.put(x, 0, "two!");
        Check.due("wanted(0) at the end", x.wanted(0), 0);
        Check.due("wants(0, two) at the end", x.wants(0, two), false);
    }

    private static void manyNames() {
        ArtifactBags y = new ArtifactBags();
        for (int i = 0; i < 18; i++) {
            for (int j = 0; j < 25; j++) {
                y.card(2, 50000 * j + 31 * ((i * 7) % 32), 0);
            }
            y.card(6, 0, 0);
            y.put(0);
        }
        Check.due("wanted(0) of 18 clusters", y.wanted(0), 18 * 25);
        Check.due("wants(0, 0)", y.wants(0, 0), true);
        Check.due("wants(0, 1)", y.wants(0, 1), false);
        Check.due("wants(0, the greatest)", y.wants(0, 50000 * 24 + 31 * 31), true);
        Check.due("wants(0, greater)", y.wants(0, 50000 * 24 + 31 * 31 + 1), false);
    }

    private static void toldNamesAreWanted() {
        ArtifactBags x = new ArtifactBags();
        int a = Texts.put(x, 0, "a");
        int b = Texts.put(x, 1, "b");
        int c = Texts.put(x, 1, "c");
        Texts.put(x, 0, "c");
        Check.due("round(0)", x.round(0), 0);
        Check.due("wanted(0)", x.wanted(0), 1);
        Check.due("wanted(1)", x.wanted(1), 1);
        Check.due("wants(0, b)", x.wants(0, b), true);
        Check.due("wants(1, a)", x.wants(1, a), true);
        Check.due("wants(0, c)", x.wants(0, c), false);
        Texts.put(x, 1, "a");
        Check.due("wanted(1) when it is held", x.wanted(1), 0);
    }

    private static void refusals() {
        ArtifactBags x = new ArtifactBags();
        Texts.put(x, 0, Texts.checkIn(1, Texts.line('P', 5), ""));
        Texts.put(x, 1, Texts.checkIn(1, Texts.line('P', 5), ""));
        int[] none = {-1, 2, Integer.MIN_VALUE, Integer.MAX_VALUE};
        for (int repository : none) {
            Check.due("wanted(" + repository + ")", x.wanted(repository), -1);
            Check.due("wants(" + repository + ", 5)", x.wants(repository, 5), false);
        }
        int[] noNames = {-1, -2, 16777216, Integer.MIN_VALUE, Integer.MAX_VALUE};
        for (int name : noNames) {
            Check.due("wants(0, " + name + ")", x.wants(0, name), false);
        }
        Check.due("wanted(0)", x.wanted(0), 1);
    }
}
