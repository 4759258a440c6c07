/** Promises 2, 3 and 4: card, raw, drop. */
public final class DraftTest {
    private static final int TOP = 16777215;

    public static void main(String[] args) {
        cardsAreWritten();
        unusedNumbersAreNotLookedAt();
        wrongNumbersAreRefused();
        cardsStopAt240();
        zHasTheDigestOfTheDraftBefore();
        cardsNeedNotBeAtTheirPlace();
        rawAppendsLowestBytesFirst();
        rawRefuses();
        rawStopsAt240();
        dropEmpties();
        Check.finish();
    }

    private static void dueText(String what, ArtifactBags x, String text) {
        int name = Texts.digest(text);
        Check.due(what, x.put(0), name);
        Texts.dueHeld(x, 0, text);
    }

    private static void dueCard(int kind, int a, int b, String text) {
        ArtifactBags x = new ArtifactBags();
        String call = "card(" + kind + ", " + a + ", " + b + ")";
        Check.due(call, x.card(kind, a, b), text.length());
        dueText(call + ", put", x, text);
    }

    private static void cardsAreWritten() {
        dueCard(0, 0, 0, "D 0\n");
        dueCard(0, 9, 0, "D 9\n");
        dueCard(0, 10, 0, "D 10\n");
        dueCard(0, 105, 0, "D 105\n");
        dueCard(0, 1000, 0, "D 1000\n");
        dueCard(0, 9999, 0, "D 9999\n");
        dueCard(1, 0, 0, "F 0 aaaaaa\n");
        dueCard(1, 9, TOP, "F 9 pppppp\n");
        dueCard(1, 4, 0x123456, "F 4 bcdefg\n");
        dueCard(2, 0, 0, "M aaaaaa\n");
        dueCard(2, TOP, 0, "M pppppp\n");
        dueCard(3, 0, -1, "P aaaaaa\n");
        dueCard(3, 1, 0, "P aaaaab aaaaaa\n");
        dueCard(3, 0x789abc, TOP, "P hijklm pppppp\n");
        dueCard(4, 0, 0, "R aaaaaa\n");
        dueCard(4, TOP, 0, "R pppppp\n");
        dueCard(5, 0, -1, "T +0 *\n");
        dueCard(5, 9, 0, "T +9 aaaaaa\n");
        dueCard(5, -1, TOP, "T -0 pppppp\n");
        dueCard(5, -10, -1, "T -9 *\n");
        dueCard(5, -4, 0xdef, "T -3 aaanop\n");
        dueCard(6, 0, 0, "Z aaaaah\n");
    }

    private static void unusedNumbersAreNotLookedAt() {
        dueCard(0, 5, Integer.MIN_VALUE, "D 5\n");
        dueCard(2, 5, Integer.MAX_VALUE, "M aaaaaf\n");
        dueCard(4, 5, -77, "R aaaaaf\n");
        dueCard(6, Integer.MIN_VALUE, Integer.MAX_VALUE, "Z aaaaah\n");
    }

    private static void dueRefused(int kind, int a, int b) {
        ArtifactBags x = new ArtifactBags();
        x.raw('x', 1);
        Check.due("card(" + kind + ", " + a + ", " + b + ")", x.card(kind, a, b), -1);
        dueText("the draft after card(" + kind + ", " + a + ", " + b + ")", x, "x");
    }

    private static void wrongNumbersAreRefused() {
        int[] noKinds = {-1, 7, Integer.MIN_VALUE, Integer.MAX_VALUE};
        for (int kind : noKinds) {
            dueRefused(kind, 1, 2);
        }
        int[] noNames = {-1, -2, TOP + 1, Integer.MIN_VALUE, Integer.MAX_VALUE};
        for (int name : noNames) {
            dueRefused(1, 1, name);
            dueRefused(2, name, 0);
            dueRefused(3, name, 1);
            dueRefused(3, name, -1);
            dueRefused(4, name, 0);
            if (name != -1) {
                dueRefused(3, 1, name);
                dueRefused(5, 1, name);
                dueRefused(5, -1, name);
            }
        }
        int[] noTimes = {-1, 10000, Integer.MIN_VALUE, Integer.MAX_VALUE};
        for (int time : noTimes) {
            dueRefused(0, time, 0);
        }
        int[] noDigits = {-1, 10, Integer.MIN_VALUE, Integer.MAX_VALUE};
        for (int digit : noDigits) {
            dueRefused(1, digit, 5);
        }
        int[] noSignedDigits = {-11, 10, Integer.MIN_VALUE, Integer.MAX_VALUE};
        for (int digit : noSignedDigits) {
            dueRefused(5, digit, 5);
            dueRefused(5, digit, -1);
        }
        dueRefused(3, 0, 0);
        dueRefused(3, TOP, TOP);
    }

    private static void dueLimit(int kind, int a, int b, int length) {
        String call = "card(" + kind + ", " + a + ", " + b + ")";
        ArtifactBags x = new ArtifactBags();
        Texts.write(x, "x".repeat(240 - length));
        Check.due(call + " up to 240", x.card(kind, a, b), 240);
        ArtifactBags y = new ArtifactBags();
        Texts.write(y, "x".repeat(241 - length));
        Check.due(call + " beyond 240", y.card(kind, a, b), -1);
        dueText("the draft after " + call + " beyond 240", y, "x".repeat(241 - length));
    }

    private static void cardsStopAt240() {
        dueLimit(0, 7, 0, 4);
        dueLimit(0, 9999, 0, 7);
        dueLimit(1, 1, 1, 11);
        dueLimit(2, 1, 0, 9);
        dueLimit(3, 1, -1, 9);
        dueLimit(3, 1, 2, 16);
        dueLimit(4, 1, 0, 9);
        dueLimit(5, 1, -1, 7);
        dueLimit(5, 1, 1, 12);
        dueLimit(6, 0, 0, 9);
    }

    private static void zHasTheDigestOfTheDraftBefore() {
        ArtifactBags x = new ArtifactBags();
        x.raw(0xff00L, 2);
        x.card(6, 0, 0);
        x.card(6, 0, 0);
        dueText("two Z cards behind bytes 0 and 255", x, Texts.sealed(Texts.sealed("\0\u00ff")));
    }

    /** "(The card need not be at its place.)": each kind behind each other one, and behind bytes that are no line. */
    private static void cardsNeedNotBeAtTheirPlace() {
        String[] texts = {"D 3\n", "F 3 aaaaae\n", "M aaaaad\n", "P aaaaad aaaaae\n", "R aaaaad\n", "T +3 aaaaae\n"};
        for (int first = 0; first < 6; first++) {
            for (int second = 0; second < 6; second++) {
                ArtifactBags x = new ArtifactBags();
                x.raw('x', 1);
                String text = "x" + texts[first] + texts[second];
                x.card(first, 3, 4);
                Check.due("card(" + second + ", 3, 4)", x.card(second, 3, 4), text.length());
                Check.due("card(6, 0, 0)", x.card(6, 0, 0), text.length() + 9);
                Check.due("card(" + first + ", 3, 4) behind Z", x.card(first, 3, 4), text.length() + 9 + texts[first].length());
                dueText("cards " + first + ", " + second, x, Texts.sealed(text) + texts[first]);
            }
        }
    }

    private static void rawAppendsLowestBytesFirst() {
        ArtifactBags x = new ArtifactBags();
        Check.due("raw of 8", x.raw(0x8001fe7f0a00ff41L, 8), 8);
        Check.due("raw of 1 of more", x.raw(0x4243L, 1), 9);
        Check.due("raw of a negative number", x.raw(-2L, 3), 12);
        dueText("the raw bytes", x, "A\u00ff\0\n\u007f\u00fe\u0001\u0080C\u00fe\u00ff\u00ff");
    }

    private static void rawRefuses() {
        ArtifactBags x = new ArtifactBags();
        int[] noCounts = {0, -1, 9, Integer.MIN_VALUE, Integer.MAX_VALUE};
        for (int n : noCounts) {
            Check.due("raw(1, " + n + ")", x.raw(1, n), -1);
        }
        Texts.write(x, "y".repeat(233));
        Check.due("raw beyond 240", x.raw(1, 8), -1);
        Check.due("raw up to 240", x.raw(0x7a7a7a7a7a7a7aL, 7), 240);
        Check.due("raw at 240", x.raw(1, 1), -1);
        dueText("the draft of 240", x, "y".repeat(233) + "z".repeat(7));
    }

    /** "or it would be longer than 240": for each n the last draft with room, and the first without. */
    private static void rawStopsAt240() {
        for (int n = 1; n <= 8; n++) {
            ArtifactBags x = new ArtifactBags();
            Texts.write(x, "y".repeat(240 - n));
            Check.due("raw of " + n + " up to 240", x.raw(0x7a7a7a7a7a7a7a7aL, n), 240);
            dueText("the draft of 240", x, "y".repeat(240 - n) + "z".repeat(n));
            ArtifactBags y = new ArtifactBags();
            Texts.write(y, "y".repeat(241 - n));
            Check.due("raw of " + n + " beyond 240", y.raw(0x7a7a7a7a7a7a7a7aL, n), -1);
            dueText("the draft after it", y, "y".repeat(241 - n));
        }
    }

    private static void dropEmpties() {
        ArtifactBags x = new ArtifactBags();
        Texts.write(x, "abc");
        Check.due("drop", x.drop(), 3);
        Check.due("drop again", x.drop(), 0);
        Check.due("put of what was dropped", x.put(0), -1);
        Texts.write(x, "q".repeat(240));
        Check.due("drop of 240", x.drop(), 240);
        Check.due("held after drop", x.held(0), 0);
        dueText("the draft after drop", writeB(x), "b");
    }

    private static ArtifactBags writeB(ArtifactBags x) {
        Check.due("raw after drop", x.raw('b', 1), 1);
        return x;
    }
}
