/**
 * Names that meet: texts that carry the very name that their bytes give them (found by trying all names), and rows of
 * other bytes that have one name in both repositories. What the document tells of a name holds for these too.
 */
public final class OwnNameTest {
    public static void main(String[] args) {
        for (int r = 0; r < 2; r++) {
            itsOwnParent(r);
            itsOwnFile(r);
            itsOwnFileAndParent(r);
            taggedByItself(r);
            clusteredByItself(r);
            clusteredByItselfIsNotGathered(r);
            aPlainRowWithTheNameOfAManifest(r);
            aPlainRowWithTheNameOfACluster(r);
            aPlainRowWithTheNameOfAControl(r);
        }
        Check.finish();
    }

    private static int putOwn(ArtifactBags x, int r, String text, int name, int kind) {
        Check.due("the digest of a text that carries it", Texts.digest(text), name);
        Texts.put(x, r, text);
        Check.due("kind(" + r + ", " + name + ")", x.kind(r, name), kind);
        return name;
    }

    /** A check-in with a P card that has its name is a child of itself, and so no leaf. */
    private static void itsOwnParent(int r) {
        ArtifactBags x = new ArtifactBags();
        int name = putOwn(x, r, Texts.checkIn(3, Texts.line('P', 9048896), ""), 9048896, 1);
        for (int turn = 0; turn < 2; turn++) {
            Check.due("checkIns", x.checkIns(r), 1);
            Check.due("children of itself", x.children(r, name), 1);
            Check.due("leaves", x.leaves(r), 0);
            Check.due("wanted", x.wanted(r), 0);
            Check.due("wants itself", x.wants(r, name), false);
            Check.due("rebuild", x.rebuild(r), 1);
        }
        Check.due("children elsewhere", x.children(1 - r, name), 0);
    }

    /** Its only file is held as soon as it is held itself. */
    private static void itsOwnFile(int r) {
        ArtifactBags x = new ArtifactBags();
        String text = Texts.sealed("D 0\n" + Texts.file(0, 15906641) + Texts.line('R', 15906641));
        int name = putOwn(x, r, text, 15906641, 1);
        for (int turn = 0; turn < 2; turn++) {
            Check.due("checkIns", x.checkIns(r), 1);
            Check.due("timeline 0", x.timeline(r, 0), name);
            Check.due("timeline 1", x.timeline(r, 1), -1);
            Check.due("leaves", x.leaves(r), 1);
            Check.due("wanted", x.wanted(r), 0);
            Check.due("rebuild", x.rebuild(r), 1);
        }
        Check.due("round(0)", x.round(0), 0);
        Check.due("round(10000)", x.round(10000), 1);
        Check.due("checkIns of the other one", x.checkIns(1 - r), 1);
        Check.due("wanted by the other one", x.wanted(1 - r), 0);
    }

    private static void itsOwnFileAndParent(int r) {
        ArtifactBags x = new ArtifactBags();
        int name = 8916495;
        String cards = Texts.file(0, name) + Texts.line('P', name) + Texts.line('R', name);
        putOwn(x, r, Texts.sealed("D 1\n" + cards + "T -1 *\n"), name, 1);
        Check.due("checkIns", x.checkIns(r), 1);
        Check.due("timeline 0", x.timeline(r, 0), name);
        Check.due("timeline 1", x.timeline(r, 1), -1);
        Check.due("children of itself", x.children(r, name), 1);
        Check.due("leaves", x.leaves(r), 0);
        Check.due("tag 1 of itself", x.tag(r, name, 1), 0);
        Check.due("wanted", x.wanted(r), 0);
        Check.due("loose", x.loose(r), 1);
    }

    private static void taggedByItself(int r) {
        ArtifactBags x = new ArtifactBags();
        int name = putOwn(x, r, Texts.sealed("D 0\n" + Texts.tag("+1", 5992306)), 5992306, 2);
        Check.due("tag 1 of itself", x.tag(r, name, 1), 1);
        Check.due("tag 2 of itself", x.tag(r, name, 2), -1);
        Texts.put(x, r, Texts.sealed("D 1\n" + Texts.tag("-1", name)));
        Check.due("tag 1 with a later control", x.tag(r, name, 1), 0);
        Check.due("wanted", x.wanted(r), 0);
    }

    private static int putClusterOfItself(ArtifactBags x, int r) {
        return putOwn(x, r, Texts.sealed(Texts.line('M', 1) + Texts.line('M', 4021690)), 4021690, 3);
    }

    /** It is not loose, so it is never told. */
    private static void clusteredByItself(int r) {
        ArtifactBags x = new ArtifactBags();
        int name = putClusterOfItself(x, r);
        for (int turn = 0; turn < 2; turn++) {
            Check.due("loose", x.loose(r), 0);
            Check.due("wanted", x.wanted(r), 1);
            Check.due("wants(1)", x.wants(r, 1), true);
            Check.due("wants itself", x.wants(r, name), false);
            Check.due("rebuild", x.rebuild(r), 0);
        }
        Check.due("round(10000)", x.round(10000), 0);
        Check.due("wanted by the other one", x.wanted(1 - r), 0);
        Check.due("round(10000), 2nd", x.round(10000), 0);
        Check.due("held by the other one", x.held(1 - r), 0);
    }

    private static void clusteredByItselfIsNotGathered(int r) {
        ArtifactBags x = new ArtifactBags();
        putClusterOfItself(x, r);
        for (int i = 0; i < 6; i++) {
            Check.due("round(0) with " + i + " loose", x.round(0), 0);
            Check.due("held with " + i + " loose", x.held(r), i + 1);
            Texts.put(x, r, Texts.named(100 + i, 4));
        }
        Check.due("round(0) with six loose", x.round(0), 0);
        Check.due("held with six loose", x.held(r), 8);
        Check.due("loose then", x.loose(r), 1);
    }

    /** "if a held manifest has the name": held here. What has the name here is plain, and stays so after rounds. */
    private static void aPlainRowWithTheNameOfAManifest(int r) {
        ArtifactBags x = new ArtifactBags();
        int name = Texts.put(x, r, Texts.checkIn(2, Texts.line('P', 5), "T +1 *\n"));
        Texts.put(x, 1 - r, Texts.named(name, 4));
        for (int turn = 0; turn < 3; turn++) {
            Check.due("kind of the plain row", x.kind(1 - r, name), 0);
            Check.due("checkIns without it", x.checkIns(1 - r), 0);
            Check.due("children without it", x.children(1 - r, 5), 0);
            Check.due("tag without it", x.tag(1 - r, name, 1), -1);
            Check.due("wants(5) without it", x.wants(1 - r, 5), false);
            Check.due("checkIns with it", x.checkIns(r), 1);
            Check.due("tag with it", x.tag(r, name, 1), 1);
            Check.due("wants(5) with it", x.wants(r, 5), true);
            Check.due("round(10000)", x.round(10000), 0);
        }
    }

    private static void aPlainRowWithTheNameOfACluster(int r) {
        ArtifactBags x = new ArtifactBags();
        int name = Texts.put(x, r, Texts.sealed(Texts.line('M', 100)));
        Texts.put(x, 1 - r, Texts.named(name, 4));
        Texts.put(x, 1 - r, Texts.named(100, 4));
        Check.due("loose with the plain row", x.loose(1 - r), 2);
        Check.due("wanted with the plain row", x.wanted(1 - r), 0);
        Check.due("wanted with the cluster", x.wanted(r), 1);
        Check.due("round(0)", x.round(0), 0);
        Check.due("round(4)", x.round(4), 1);
        Check.due("loose with the cluster", x.loose(r), 1);
        Check.due("loose with the plain row, then", x.loose(1 - r), 2);
    }

    private static void aPlainRowWithTheNameOfAControl(int r) {
        ArtifactBags x = new ArtifactBags();
        String control = Texts.sealed("D 2\n" + Texts.tag("+1", 5));
        int name = Texts.put(x, 1 - r, Texts.named(Texts.digest(control), 4));
        Texts.put(x, 1 - r, control);
        Check.due("held", x.held(1 - r), 1);
        Check.due("kind of the row that stays", x.kind(1 - r, name), 0);
        Check.due("tag of the row that stays", x.tag(1 - r, 5, 1), -1);
        Texts.put(x, r, control);
        Texts.put(x, r, Texts.named(name, 4));
        Check.due("kind of the control that stays", x.kind(r, name), 2);
        Check.due("tag of the control that stays", x.tag(r, 5, 1), 1);
    }
}
