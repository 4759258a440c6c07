/** The boundary cases of WHAT IS DERIVED: check-ins, times, children, leaves, tags, what is clustered, what is wanted. */
public final class DerivedEdgeTest {
    private static final int TOP = 16777215;

    public static void main(String[] args) {
        digestOneOff();
        noFilesAndTenFiles();
        oneFileIsLacking();
        aFileTwice();
        aCheckInAsFile();
        leastAndGreatestTimes();
        oneTimeByName();
        thirtyTwoCheckIns();
        bothParentsCount();
        childrenMustBeCheckIns();
        aLeafUntilItHasAChild();
        tagsOfLeastAndGreatestTime();
        tagsOfOneTime();
        tagsOfWhatIsNotHeld();
        starsTagOnlyTheirManifest();
        clusteredBeforeItIsHeld();
        clusteredOnlyByHeldClusters();
        wantedUntilHeld();
        wantedOnce();
        manyAreWanted();
        rebuildForgetsJustWhatWasTold();
        Check.finish();
    }

    private static String manifest(int time, String files, int digest) {
        return Texts.sealed("D " + time + "\n" + files + Texts.line('R', digest));
    }

    private static void dueCheckIns(ArtifactBags x, int repository, int count) {
        Check.due("checkIns(" + repository + ")", x.checkIns(repository), count);
        Check.due("the last of timeline(" + repository + ", ..)", x.timeline(repository, count - 1) != -1, count > 0);
        Check.due("timeline(" + repository + ", " + count + ")", x.timeline(repository, count), -1);
    }

    /** "its R card's x is the digest of all their bytes" */
    private static void digestOneOff() {
        int[] off = {-1, 0, 1};
        for (int step : off) {
            ArtifactBags x = new ArtifactBags();
            int file = Texts.put(x, 0, "one");
            Texts.put(x, 0, manifest(1, Texts.file(3, file), Texts.digest("one") + step));
            dueCheckIns(x, 0, step == 0 ? 1 : 0);
            Texts.put(x, 1, manifest(1, "", 7 + step));
            dueCheckIns(x, 1, step == 0 ? 1 : 0);
        }
        ArtifactBags x = new ArtifactBags();
        Texts.put(x, 0, Texts.named(0, 4));
        Texts.put(x, 0, manifest(1, Texts.file(0, 0), 0));
        dueCheckIns(x, 0, 1);
        Texts.put(x, 0, Texts.named(16777212, 4));
        Texts.put(x, 0, manifest(1, Texts.file(0, 16777212), 16777212));
        dueCheckIns(x, 0, 2);
        // One more than a digest can be would be the same digest again, if it were taken by the modulus.
        Texts.put(x, 0, manifest(1, Texts.file(0, 0), 16777213));
        dueCheckIns(x, 0, 2);
    }

    private static void noFilesAndTenFiles() {
        ArtifactBags x = new ArtifactBags();
        StringBuilder files = new StringBuilder();
        StringBuilder all = new StringBuilder();
        for (int d = 9; d >= 0; d--) {
            String text = "file" + d;
            files.insert(0, Texts.file(d, Texts.digest(text)));
            all.insert(0, text);
        }
        Texts.put(x, 0, manifest(1, files.toString(), Texts.digest(all.toString())));
        for (int d = 9; d >= 0; d--) {
            dueCheckIns(x, 0, 0);
            Check.due("wanted(0)", x.wanted(0), d + 1);
            Texts.put(x, 0, "file" + d);
        }
        dueCheckIns(x, 0, 1);
        Texts.put(x, 0, manifest(1, "", 7));
        dueCheckIns(x, 0, 2);
    }

    /** "all artifacts that its F cards name are held", in this repository */
    private static void oneFileIsLacking() {
        for (int lacking = 0; lacking < 3; lacking++) {
            ArtifactBags x = new ArtifactBags();
            StringBuilder files = new StringBuilder();
            for (int i = 0; i < 3; i++) {
                files.append(Texts.file(i, Texts.digest("f" + i)));
                Texts.put(x, i == lacking ? 1 : 0, "f" + i);
            }
            Texts.put(x, 0, manifest(1, files.toString(), Texts.digest("f0f1f2")));
            dueCheckIns(x, 0, 0);
            Check.due("rebuild(0)", x.rebuild(0), 0);
            Texts.put(x, 0, "f" + lacking);
            dueCheckIns(x, 0, 1);
            Check.due("rebuild(0) then", x.rebuild(0), 1);
        }
    }

    private static void aFileTwice() {
        ArtifactBags x = new ArtifactBags();
        String files = Texts.file(0, Texts.digest("f")) + Texts.file(1, Texts.digest("g")) + Texts.file(2, Texts.digest("f"));
        Texts.put(x, 0, manifest(1, files, Texts.digest("fgf")));
        Texts.put(x, 0, manifest(1, files, Texts.digest("fg")));
        Texts.put(x, 0, manifest(1, files, Texts.digest("ffg")));
        Check.due("wanted(0)", x.wanted(0), 2);
        Texts.put(x, 0, "f");
        dueCheckIns(x, 0, 0);
        Texts.put(x, 0, "g");
        dueCheckIns(x, 0, 1);
        Check.due("timeline(0, 0)", x.timeline(0, 0), Texts.digest(manifest(1, files, Texts.digest("fgf"))));
    }

    /** A manifest may be a file of another one; both become check-ins when the last file comes. */
    private static void aCheckInAsFile() {
        ArtifactBags x = new ArtifactBags();
        String inner = manifest(5, Texts.file(0, Texts.digest("f")), Texts.digest("f"));
        String outer = manifest(4, Texts.file(0, Texts.digest("f")) + Texts.file(1, Texts.digest(inner)),
                Texts.digest("f" + inner));
        Texts.put(x, 1, outer);
        Texts.put(x, 1, inner);
        dueCheckIns(x, 1, 0);
        Texts.put(x, 1, "f");
        dueCheckIns(x, 1, 2);
        Check.due("timeline(1, 0)", x.timeline(1, 0), Texts.digest(outer));
        Check.due("timeline(1, 1)", x.timeline(1, 1), Texts.digest(inner));
    }

    /** "Its TIME is the number of its D card": 9 is before 10, though its text is behind. */
    private static void leastAndGreatestTimes() {
        int[] times = {9999, 1000, 999, 100, 99, 10, 9, 1, 0};
        ArtifactBags x = new ArtifactBags();
        for (int time : times) {
            Texts.put(x, 0, Texts.checkIn(time, "", ""));
            Check.due("timeline(0, 0) with " + time, x.timeline(0, 0), Texts.digest(Texts.checkIn(time, "", "")));
        }
        for (int k = 0; k < times.length; k++) {
            int due = Texts.digest(Texts.checkIn(times[times.length - 1 - k], "", ""));
            Check.due("timeline(0, " + k + ")", x.timeline(0, k), due);
        }
        Check.due("timeline(0, -1)", x.timeline(0, -1), -1);
        Check.due("timeline(0, 9)", x.timeline(0, 9), -1);
    }

    /** "by growing time, those of one time by growing name", whichever was put first */
    private static void oneTimeByName() {
        for (int parent = 0; parent < 40; parent++) {
            String one = Texts.checkIn(7, Texts.line('P', parent), "");
            String two = Texts.checkIn(7, Texts.line('P', parent + 1), "");
            int least = Math.min(Texts.digest(one), Texts.digest(two));
            int greatest = Math.max(Texts.digest(one), Texts.digest(two));
            ArtifactBags x = new ArtifactBags();
            Texts.put(x, 0, one);
            Texts.put(x, 0, two);
            Texts.put(x, 1, two);
            Texts.put(x, 1, one);
            for (int r = 0; r < 2; r++) {
                Check.due("timeline(" + r + ", 0)", x.timeline(r, 0), least);
                Check.due("timeline(" + r + ", 1)", x.timeline(r, 1), greatest);
            }
        }
    }

    /** All that a repository can hold are check-ins, in a chain: one leaf. */
    private static void thirtyTwoCheckIns() {
        ArtifactBags x = new ArtifactBags();
        String parent = "";
        int[] names = new int[32];
        for (int i = 0; i < 32; i++) {
            names[i] = Texts.put(x, 1, Texts.checkIn(31 - i, parent, ""));
            parent = Texts.line('P', names[i]);
            Check.due("leaves(1)", x.leaves(1), 1);
        }
        dueCheckIns(x, 1, 32);
        for (int i = 0; i < 32; i++) {
            Check.due("timeline(1, " + (31 - i) + ")", x.timeline(1, 31 - i), names[i]);
            Check.due("children(1, " + names[i] + ")", x.children(1, names[i]), i == 31 ? 0 : 1);
        }
        Check.due("rebuild(1)", x.rebuild(1), 32);
        Check.due("leaves(1) after rebuild", x.leaves(1), 1);
        Check.due("timeline(1, 31) after rebuild", x.timeline(1, 31), names[0]);
    }

    /** "The CHILDREN of a name are the check-ins with a P card that has this name" */
    private static void bothParentsCount() {
        ArtifactBags x = new ArtifactBags();
        Texts.put(x, 0, Texts.checkIn(1, "P aaaaaa pppppp\n", ""));
        Check.due("children(0, 0)", x.children(0, 0), 1);
        Check.due("children(0, 16777215)", x.children(0, TOP), 1);
        Check.due("children(0, 1)", x.children(0, 1), 0);
        Check.due("children(0, 16777214)", x.children(0, TOP - 1), 0);
        Check.due("children(1, 0)", x.children(1, 0), 0);
        Texts.put(x, 0, Texts.checkIn(2, "P pppppp\n", ""));
        Check.due("children(0, 16777215) of two", x.children(0, TOP), 2);
        Check.due("children(0, -1)", x.children(0, -1), 0);
        Check.due("leaves(0)", x.leaves(0), 2);
    }

    private static void childrenMustBeCheckIns() {
        ArtifactBags x = new ArtifactBags();
        int root = Texts.put(x, 0, Texts.checkIn(1, "", ""));
        Texts.put(x, 0, Texts.sealed("D 2\n" + Texts.line('P', root) + Texts.line('R', 8)));
        Texts.put(x, 0, "D 2\n" + Texts.line('P', root) + Texts.line('R', 7));
        Texts.put(x, 0, Texts.sealed("D 2\n" + Texts.tag("+1", root)));
        Texts.put(x, 0, Texts.sealed(Texts.line('M', root)));
        Texts.put(x, 1, Texts.checkIn(2, Texts.line('P', root), ""));
        Check.due("children(0, root)", x.children(0, root), 0);
        Check.due("leaves(0)", x.leaves(0), 1);
        Check.due("children(1, root)", x.children(1, root), 1);
        Check.due("leaves(1)", x.leaves(1), 1);
    }

    /** "a LEAF is a check-in that has none" */
    private static void aLeafUntilItHasAChild() {
        ArtifactBags x = new ArtifactBags();
        Check.due("leaves(0) of nothing", x.leaves(0), 0);
        int root = Texts.put(x, 0, Texts.checkIn(1, "", ""));
        Check.due("leaves(0) of one", x.leaves(0), 1);
        int other = Texts.put(x, 0, Texts.checkIn(2, "", ""));
        Check.due("leaves(0) of two", x.leaves(0), 2);
        int left = Texts.put(x, 0, Texts.checkIn(3, Texts.line('P', root), ""));
        Check.due("leaves(0) with a child of one", x.leaves(0), 2);
        String both = "P " + Texts.letters(left) + " " + Texts.letters(other) + "\n";
        Texts.put(x, 0, Texts.checkIn(0, both, ""));
        Check.due("leaves(0) with a child of both", x.leaves(0), 1);
        Check.due("children of the second parent", x.children(0, other), 1);
    }

    private static String control(int time, String tags) {
        return Texts.sealed("D " + time + "\n" + tags);
    }

    /** "the card of the artifact with the greatest time (number of its D card) counts" */
    private static void tagsOfLeastAndGreatestTime() {
        int[] times = {0, 1, 9, 10, 99, 100, 999, 1000, 9998, 9999};
        for (int i = 1; i < times.length; i++) {
            for (int turn = 0; turn < 2; turn++) {
                ArtifactBags x = new ArtifactBags();
                String earlier = control(times[i - 1], Texts.tag("+9", TOP));
                String later = control(times[i], Texts.tag("-9", TOP));
                Texts.put(x, 0, turn == 0 ? earlier : later);
                Check.due("tag(0, TOP, 9) of one", x.tag(0, TOP, 9), turn == 0 ? 1 : 0);
                Texts.put(x, 0, turn == 0 ? later : earlier);
                Check.due("tag(0, TOP, 9) of " + times[i], x.tag(0, TOP, 9), 0);
                Check.due("rebuild(0)", x.rebuild(0), 0);
                Check.due("tag(0, TOP, 9) after rebuild", x.tag(0, TOP, 9), 0);
            }
        }
    }

    /** "of several the one with the greatest name" */
    private static void tagsOfOneTime() {
        for (int time = 100; time < 140; time++) {
            String on = control(time, Texts.tag("+0", 0));
            String off = control(time, Texts.tag("-0", 0));
            int due = Texts.digest(on) > Texts.digest(off) ? 1 : 0;
            ArtifactBags x = new ArtifactBags();
            Texts.put(x, 0, on);
            Texts.put(x, 0, off);
            Texts.put(x, 1, off);
            Texts.put(x, 1, on);
            Check.due("tag(0, 0, 0) at " + time, x.tag(0, 0, 0), due);
            Check.due("tag(1, 0, 0) at " + time, x.tag(1, 0, 0), due);
        }
    }

    /** "(it need not be held)", "d is not 0 .. 9" */
    private static void tagsOfWhatIsNotHeld() {
        ArtifactBags x = new ArtifactBags();
        int[] names = {0, 1, 16777212, 16777213, TOP};
        for (int name : names) {
            Texts.put(x, 0, control(1, Texts.tag("+0", name) + Texts.tag("-9", name)));
        }
        for (int name : names) {
            Check.due("tag(0, " + name + ", -1)", x.tag(0, name, -1), -1);
            Check.due("tag(0, " + name + ", 0)", x.tag(0, name, 0), 1);
            Check.due("tag(0, " + name + ", 1)", x.tag(0, name, 1), -1);
            Check.due("tag(0, " + name + ", 8)", x.tag(0, name, 8), -1);
            Check.due("tag(0, " + name + ", 9)", x.tag(0, name, 9), 0);
            Check.due("tag(0, " + name + ", 10)", x.tag(0, name, 10), -1);
            Check.due("tag(1, " + name + ", 0)", x.tag(1, name, 0), -1);
        }
        Check.due("tag(0, 2, 0)", x.tag(0, 2, 0), -1);
        Check.due("tag(0, 16777214, 9)", x.tag(0, TOP - 1, 9), -1);
        Check.due("wanted(0)", x.wanted(0), 0);
    }

    /** "if a held manifest has the name, its own with *": a check-in or not */
    private static void starsTagOnlyTheirManifest() {
        ArtifactBags x = new ArtifactBags();
        int first = Texts.put(x, 0, Texts.checkIn(5, "", "T +0 *\nT -9 *\n"));
        int second = Texts.put(x, 0, Texts.sealed("D 6\n" + Texts.line('R', 8) + "T -0 *\n"));
        Check.due("tag(0, first, 0)", x.tag(0, first, 0), 1);
        Check.due("tag(0, first, 9)", x.tag(0, first, 9), 0);
        Check.due("tag(0, second, 0)", x.tag(0, second, 0), 0);
        Check.due("tag(0, second, 9)", x.tag(0, second, 9), -1);
        Check.due("tag(1, first, 0)", x.tag(1, first, 0), -1);
        Texts.put(x, 0, control(4, Texts.tag("-0", first)));
        Check.due("tag(0, first, 0) with an earlier control", x.tag(0, first, 0), 1);
        Texts.put(x, 0, control(6, Texts.tag("-0", first)));
        Check.due("tag(0, first, 0) with a later control", x.tag(0, first, 0), 0);
        Texts.put(x, 1, control(6, Texts.tag("-0", first)));
        Check.due("tag(1, first, 0) with a control alone", x.tag(1, first, 0), 0);
    }

    /** "An artifact is CLUSTERED when a held cluster names it": also when the cluster came first. */
    private static void clusteredBeforeItIsHeld() {
        ArtifactBags x = new ArtifactBags();
        Texts.put(x, 0, Texts.sealed(Texts.line('M', 0) + Texts.line('M', 16777212)));
        Check.due("loose(0) of a cluster", x.loose(0), 1);
        Texts.put(x, 0, Texts.named(0, 4));
        Texts.put(x, 0, Texts.named(16777212, 4));
        Check.due("loose(0) of a cluster and what it names", x.loose(0), 1);
        Texts.put(x, 0, Texts.named(1, 4));
        Texts.put(x, 0, Texts.named(16777211, 4));
        Check.due("loose(0) with two more", x.loose(0), 3);
        Check.due("rebuild(0)", x.rebuild(0), 0);
        Check.due("loose(0) after rebuild", x.loose(0), 3);
    }

    private static void clusteredOnlyByHeldClusters() {
        ArtifactBags x = new ArtifactBags();
        int a = Texts.put(x, 0, "a");
        Texts.put(x, 0, Texts.line('M', a));
        Texts.put(x, 0, Texts.line('M', a) + Texts.line('Z', 7));
        Texts.put(x, 0, Texts.checkIn(1, Texts.line('P', a), ""));
        Texts.put(x, 0, Texts.sealed("D 1\n" + Texts.tag("+1", a)));
        Texts.put(x, 1, Texts.sealed(Texts.line('M', a)));
        Check.due("loose(0)", x.loose(0), 5);
        Check.due("loose(1)", x.loose(1), 1);
        Texts.put(x, 0, Texts.sealed(Texts.line('M', a)));
        Check.due("loose(0) with the cluster", x.loose(0), 5);
        Check.due("held(0) with the cluster", x.held(0), 6);
    }

    /** "When an artifact is held, its name is not wanted any more." */
    private static void wantedUntilHeld() {
        int[] names = {0, 1, 16777212};
        for (int name : names) {
            ArtifactBags x = new ArtifactBags();
            Texts.put(x, 0, Texts.sealed(Texts.line('M', name) + Texts.line('M', TOP)));
            Check.due("wanted(0)", x.wanted(0), 2);
            Check.due("wants(0, " + name + ")", x.wants(0, name), true);
            Texts.put(x, 1, Texts.named(name, 4));
            Check.due("wants(0, " + name + "), held elsewhere", x.wants(0, name), true);
            Texts.put(x, 0, Texts.named(name, 4));
            Check.due("wants(0, " + name + "), held", x.wants(0, name), false);
            Check.due("wanted(0), held", x.wanted(0), 1);
            Texts.put(x, 0, Texts.checkIn(1, Texts.line('P', name), ""));
            Check.due("wants(0, " + name + "), named again", x.wants(0, name), false);
            Check.due("rebuild(0)", x.rebuild(0), 1);
            Check.due("wanted(0) after rebuild", x.wanted(0), 1);
        }
    }

    /** A name in several cards, and told besides, is one name. */
    private static void wantedOnce() {
        ArtifactBags x = new ArtifactBags();
        int a = Texts.put(x, 0, "a");
        Texts.put(x, 1, Texts.sealed("D 1\n" + Texts.file(0, a) + Texts.file(1, a) + Texts.line('P', a) + Texts.line('R', 7)));
        Texts.put(x, 1, Texts.sealed(Texts.line('M', a)));
        Check.due("wanted(1)", x.wanted(1), 1);
        Check.due("round(0)", x.round(0), 0);
        Check.due("wanted(1), told", x.wanted(1), 1);
        Check.due("rebuild(1)", x.rebuild(1), 0);
        Check.due("wants(1, a)", x.wants(1, a), true);
        Texts.put(x, 1, "a");
        Check.due("wanted(1), held", x.wanted(1), 0);
    }

    /** Many names of clusters with as many M cards as there is room for, and all that a full repository tells. */
    private static void manyAreWanted() {
        ArtifactBags x = new ArtifactBags();
        for (int i = 0; i < 10; i++) {
            StringBuilder body = new StringBuilder();
            for (int j = 0; j < 25; j++) {
                body.append(Texts.line('M', 600000 * j + 10 * (i * 7 % 10) + 1));
            }
            Texts.put(x, 0, Texts.sealed(body.toString()));
        }
        for (int i = 0; i < 32; i++) {
            Texts.put(x, 1, Texts.named(14400000 + 1000 * i, 4));
        }
        Check.due("wanted(0)", x.wanted(0), 250);
        Check.due("round(0)", x.round(0), 0);
        Check.due("wanted(0), told", x.wanted(0), 282);
        Check.due("wants(0, 1)", x.wants(0, 1), true);
        Check.due("wants(0, 2)", x.wants(0, 2), false);
        Check.due("wants(0, 14400091)", x.wants(0, 14400091), true);
        Check.due("wants(0, 14431000)", x.wants(0, 14431000), true);
        Check.due("wants(0, 14431001)", x.wants(0, 14431001), false);
        Check.due("rebuild(0)", x.rebuild(0), 0);
        Check.due("wanted(0), told and forgotten", x.wanted(0), 250);
    }

    /** "(what was told is forgotten)", in this repository alone */
    private static void rebuildForgetsJustWhatWasTold() {
        ArtifactBags x = new ArtifactBags();
        int a = Texts.put(x, 0, "a");
        int b = Texts.put(x, 1, "b");
        x.round(0);
        Check.due("rebuild(0)", x.rebuild(0), 0);
        Check.due("wants(0, b)", x.wants(0, b), false);
        Check.due("wanted(0)", x.wanted(0), 0);
        Check.due("wants(1, a)", x.wants(1, a), true);
        Check.due("wanted(1)", x.wanted(1), 1);
        Texts.put(x, 1, Texts.checkIn(1, Texts.line('P', a), ""));
        Check.due("rebuild(1)", x.rebuild(1), 1);
        Check.due("wants(1, a), which is a parent too", x.wants(1, a), true);
    }
}
