/** Promises 5, 6, 8, 9 and 10: files, put, held, name, octet. */
public final class FilesAndPutTest {
    /** Two rows of bytes of one name, but not of one length: with bytes before them their digests differ. */
    private static final String TWIN = "A";
    private static final String OTHER_TWIN = "\u00e8\u001e!";

    public static void main(String[] args) {
        filesFollowTheOrderOfTheCards();
        filesSkipWhatIsNoLineOrNoCard();
        filesRefuse();
        filesUseTheRepositorysOwnBytes();
        putHoldsAndEmpties();
        putOfANameThatIsHeld();
        putRefuses();
        putStopsAt32();
        namesGrow();
        octetsRefuse();
        Check.finish();
    }

    private static void dueFiles(ArtifactBags x, String draft, int digest) {
        Texts.write(x, draft);
        Check.due("files of " + draft, x.files(0), digest);
        Check.due("the draft's length after files", x.drop(), draft.length());
    }

    private static void filesFollowTheOrderOfTheCards() {
        ArtifactBags x = new ArtifactBags();
        int one = Texts.put(x, 0, "one");
        int two = Texts.put(x, 0, "two!");
        dueFiles(x, "", 7);
        dueFiles(x, Texts.file(1, one), Texts.digest("one"));
        dueFiles(x, Texts.file(1, one) + Texts.file(2, two), Texts.digest("onetwo!"));
        dueFiles(x, Texts.file(9, two) + Texts.file(0, one), Texts.digest("two!one"));
        dueFiles(x, Texts.file(1, one) + "P aaaaaa\n" + Texts.file(1, one), Texts.digest("oneone"));
    }

    private static void filesSkipWhatIsNoLineOrNoCard() {
        ArtifactBags x = new ArtifactBags();
        int one = Texts.put(x, 0, "one");
        String file = Texts.file(1, one);
        String open = file.substring(0, file.length() - 1);
        dueFiles(x, open, 7);
        dueFiles(x, "F 1 aaaaaa", 7);
        dueFiles(x, file + open, Texts.digest("one"));
        String[] behind = {"x", " ", "\r", "\0", "\u000b", "\u00ff", "xx", open};
        for (String rest : behind) {
            dueFiles(x, open + rest, 7);
            dueFiles(x, file + open + rest, Texts.digest("one"));
            dueFiles(x, file + rest, Texts.digest("one"));
        }
        dueFiles(x, "x" + file, 7);
        dueFiles(x, "x\n\n" + file, Texts.digest("one"));
        dueFiles(x, "\n" + file, Texts.digest("one"));
        dueFiles(x, "\n", 7);
        dueFiles(x, open + " \n", 7);
        dueFiles(x, "F  1 " + Texts.letters(one) + "\n", 7);
        dueFiles(x, "F 10 " + Texts.letters(one) + "\n", 7);
        dueFiles(x, "F : " + Texts.letters(one) + "\n", 7);
        dueFiles(x, "F / " + Texts.letters(one) + "\n", 7);
        dueFiles(x, "F 1  " + Texts.letters(one) + "\n", 7);
        dueFiles(x, "F 1_" + Texts.letters(one) + "\n", 7);
        dueFiles(x, "F_1 " + Texts.letters(one) + "\n", 7);
        dueFiles(x, "F 1 aaaaaq\n", 7);
        dueFiles(x, "F 1 aaaaa`\n", 7);
        dueFiles(x, "F 1 aaaaa\n", 7);
        dueFiles(x, "F 1 AAAAAA\n", 7);
        dueFiles(x, "F\n", 7);
        dueFiles(x, "F \n", 7);
        dueFiles(x, "F 1\n", 7);
        dueFiles(x, "F 1 \n", 7);
        dueFiles(x, "f 1 " + Texts.letters(one) + "\n", 7);
        dueFiles(x, "M " + Texts.letters(one) + "\n", 7);
        dueFiles(x, "F 1 " + Texts.letters(one) + "\r\n", 7);
    }

    private static void filesRefuse() {
        ArtifactBags x = new ArtifactBags();
        int one = Texts.put(x, 0, "one");
        dueFiles(x, Texts.file(1, one + 1), -1);
        dueFiles(x, Texts.file(1, one) + Texts.file(2, one + 1) + Texts.file(3, one), -1);
        Texts.write(x, Texts.file(1, one));
        Check.due("files(1)", x.files(1), -1);
        Check.due("files(2)", x.files(2), -1);
        Check.due("files(-1)", x.files(-1), -1);
        Check.due("drop", x.drop(), 11);
        Check.due("files(2) of the empty draft", x.files(2), -1);
    }

    private static void filesUseTheRepositorysOwnBytes() {
        ArtifactBags x = new ArtifactBags();
        int name = Texts.put(x, 0, TWIN);
        Texts.put(x, 1, OTHER_TWIN);
        int end = Texts.put(x, 0, "!");
        Texts.put(x, 1, "!");
        Texts.write(x, Texts.file(1, end) + Texts.file(2, name));
        Check.due("files(0)", x.files(0), Texts.digest("!" + TWIN));
        Check.due("files(1)", x.files(1), Texts.digest("!" + OTHER_TWIN));
        Check.due("whether both digests are one", Texts.digest("!" + TWIN) == Texts.digest("!" + OTHER_TWIN), false);
    }

    private static void putHoldsAndEmpties() {
        ArtifactBags x = new ArtifactBags();
        Texts.put(x, 1, "abc");
        Check.due("drop after put", x.drop(), 0);
        Check.due("held(0)", x.held(0), 0);
        Check.due("held(1)", x.held(1), 1);
        Texts.dueHeld(x, 1, "abc");
        Texts.put(x, 1, "xy");
        Texts.dueHeld(x, 1, "abc");
        Texts.dueHeld(x, 1, "xy");
        Texts.put(x, 0, "\u00ff".repeat(240));
        Texts.dueHeld(x, 0, "\u00ff".repeat(240));
    }

    private static void putOfANameThatIsHeld() {
        ArtifactBags x = new ArtifactBags();
        Check.due("the twins' names", Texts.digest(TWIN), Texts.digest(OTHER_TWIN));
        Texts.put(x, 0, TWIN);
        Texts.put(x, 0, OTHER_TWIN);
        Check.due("held(0)", x.held(0), 1);
        Check.due("drop", x.drop(), 0);
        Texts.dueHeld(x, 0, TWIN);
        Texts.put(x, 1, OTHER_TWIN);
        Texts.dueHeld(x, 1, OTHER_TWIN);
    }

    private static void putRefuses() {
        ArtifactBags x = new ArtifactBags();
        Check.due("put of the empty draft", x.put(0), -1);
        Texts.write(x, "abc");
        int[] none = {-1, 2, Integer.MIN_VALUE, Integer.MAX_VALUE};
        for (int repository : none) {
            Check.due("put(" + repository + ")", x.put(repository), -1);
            Check.due("held(" + repository + ")", x.held(repository), -1);
            Check.due("name(" + repository + ", 0)", x.name(repository, 0), -1);
        }
        Check.due("drop after the refusals", x.drop(), 3);
    }

    private static void putStopsAt32() {
        ArtifactBags x = new ArtifactBags();
        for (int i = 0; i < 32; i++) {
            Check.due("held(0)", x.held(0), i);
            Texts.put(x, 0, "n" + i);
        }
        Texts.write(x, "one more");
        Check.due("put of the 33rd", x.put(0), -1);
        Check.due("held(0)", x.held(0), 32);
        Check.due("put in the other one", x.put(1), Texts.digest("one more"));
        Texts.put(x, 0, "n17");
        Check.due("held(0)", x.held(0), 32);
        Check.due("drop", x.drop(), 0);
        Texts.dueHeld(x, 0, "n0");
        Texts.dueHeld(x, 0, "n31");
    }

    private static void namesGrow() {
        ArtifactBags x = new ArtifactBags();
        java.util.TreeSet<Integer> names = new java.util.TreeSet<>();
        for (int i = 0; i < 32; i++) {
            names.add(Texts.put(x, 1, "zyxw".substring(i % 4) + (i * 37 % 64)));
        }
        int k = 0;
        for (int name : names) {
            Check.due("name(1, " + k + ")", x.name(1, k), name);
            k++;
        }
        Check.due("name(1, -1)", x.name(1, -1), -1);
        Check.due("name(1, " + k + ")", x.name(1, k), -1);
        Check.due("name(1, MAX)", x.name(1, Integer.MAX_VALUE), -1);
        Check.due("name(1, MIN)", x.name(1, Integer.MIN_VALUE), -1);
        Check.due("name(0, 0)", x.name(0, 0), -1);
    }

    private static void octetsRefuse() {
        ArtifactBags x = new ArtifactBags();
        int name = Texts.put(x, 0, "ab");
        Check.due("octet 0", x.octet(0, name, 0), 'a');
        Check.due("octet -1", x.octet(0, name, -1), -1);
        Check.due("octet 2", x.octet(0, name, 2), -1);
        Check.due("octet MAX", x.octet(0, name, Integer.MAX_VALUE), -1);
        Check.due("octet MIN", x.octet(0, name, Integer.MIN_VALUE), -1);
        Check.due("octet of a name not held", x.octet(0, name + 1, 0), -1);
        Check.due("octet in the other repository", x.octet(1, name, 0), -1);
        Check.due("octet in no repository", x.octet(2, name, 0), -1);
        Check.due("octet in repository -1", x.octet(-1, name, 0), -1);
        Check.due("octet of name -1", x.octet(0, -1, 0), -1);
    }
}
