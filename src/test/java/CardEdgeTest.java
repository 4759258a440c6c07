/** The boundary cases of the paragraph CARDS: what is just a card, what just makes a text, and what is one step off. */
public final class CardEdgeTest {
    private static final String D = "D 5\n";
    private static final String R = "R aaaaah\n";
    private static final String TAG = "T +1 aaaaaa\n";
    private static final String MANIFEST = "D 10\nF 0 aaaaap\nF 9 paaaaa\nP aaaaaa aaaaab\nR aaaaah\nT +0 *\nT -9 *\n";
    private static final String CONTROL = "D 9999\nT +0 aaaaaa\nT -9 pppppp\n";
    private static final String CLUSTER = "M aaaaaa\nM aaaaab\nM pppppp\n";

    public static void main(String[] args) {
        linesEndWithByte10();
        times();
        digitsOfFiles();
        names();
        parents();
        tags();
        strictlyGrowing();
        atMostOneParentCard();
        justOneSeal();
        justOneTimeAndOneDigest();
        mostCardsOfOneText();
        linesThatEndTooEarly();
        eachOrderOfCards();
        eachByteOfAText();
        eachByteOfAFileCardInTheDraft();
        Check.finish();
    }

    private static void dueKind(int kind, String text) {
        ArtifactBags x = new ArtifactBags();
        int name = Texts.put(x, 0, text);
        Check.due("kind of " + text.replace('\n', '|'), x.kind(0, name), kind);
    }

    private static void dueSealed(int kind, String body) {
        dueKind(kind, Texts.sealed(body));
    }

    /** "lines, each ended by a byte 10": bytes behind the last byte 10 are no line, and the text is plain. */
    private static void linesEndWithByte10() {
        String[] texts = {Texts.sealed(MANIFEST), Texts.sealed(CONTROL), Texts.sealed(CLUSTER)};
        for (int i = 0; i < texts.length; i++) {
            dueKind(i + 1, texts[i]);
            dueKind(0, texts[i].substring(0, texts[i].length() - 1));
            dueKind(0, texts[i] + "\n");
            dueKind(0, texts[i] + " ");
            dueKind(0, texts[i] + "\0");
            dueKind(0, texts[i] + "Z");
            dueKind(0, texts[i] + Texts.line('Z', Texts.digest(texts[i])).trim());
            dueKind(0, texts[i].substring(0, texts[i].length() - 1) + "\r");
            dueKind(0, texts[i].substring(0, texts[i].length() - 1) + "\u008a");
        }
        // As many bytes behind the Z line as its digest reaches into that line: plain, though the last 9 bytes would fit.
        String[] bodies = {MANIFEST, CONTROL, CLUSTER};
        for (String body : bodies) {
            dueKind(0, body + Texts.line('Z', Texts.digest(body + "Z")) + "x");
            dueKind(0, body + Texts.line('Z', Texts.digest(body + "Z ")) + "xx");
        }
    }

    /** "D n, n a number 0 .. 9999 without zeros before it" */
    private static void times() {
        int[] numbers = {0, 1, 9, 10, 11, 99, 100, 101, 999, 1000, 1001, 9998, 9999};
        for (int n : numbers) {
            dueSealed(1, "D " + n + "\n" + R);
            dueSealed(2, "D " + n + "\n" + TAG);
            dueSealed(0, "D 0" + n + "\n" + R);
            dueSealed(0, "D 0" + n + "\n" + TAG);
        }
        String[] none = {"10000", "10001", "99999", "100000", "000", "0000", "00000", "-0", "-1", "+0", "", "1.0", "1e3"};
        for (String n : none) {
            dueSealed(0, "D " + n + "\n" + R);
            dueSealed(0, "D " + n + "\n" + TAG);
        }
    }

    /** "F d x, d a digit" */
    private static void digitsOfFiles() {
        dueSealed(1, D + "F 0 aaaaaa\n" + R);
        dueSealed(1, D + "F 9 aaaaaa\n" + R);
        String[] none = {"/", ":", "10", "00", "-1", "+1", "", "a", " "};
        for (String d : none) {
            dueSealed(0, D + "F " + d + " aaaaaa\n" + R);
        }
        dueSealed(0, D + "F aaaaaa\n" + R);
        dueSealed(0, D + "F 1 *\n" + R);
    }

    /** "six letters a .. p" in each card that has a name */
    private static void names() {
        String[] least = {"aaaaaa", "pppppp", "aaaaap", "paaaaa"};
        String[] none = {"aaaaa", "aaaaaaa", "ppppppp", "aaaaaq", "qaaaaa", "`aaaaa", "aaaaa`", "AAAAAA", "00000a", "", "*"};
        for (String name : least) {
            dueName(true, name);
        }
        for (String name : none) {
            dueName(false, name);
        }
    }

    private static void dueName(boolean good, String name) {
        dueSealed(good ? 1 : 0, D + "F 1 " + name + "\n" + R);
        dueSealed(good ? 1 : 0, D + "P " + name + "\n" + R);
        dueSealed(good ? 1 : 0, D + "P " + name + " abcdef\n" + R);
        dueSealed(good ? 1 : 0, D + "P abcdef " + name + "\n" + R);
        dueSealed(good ? 1 : 0, D + "R " + name + "\n");
        dueSealed(good ? 2 : 0, D + "T +1 " + name + "\n");
        dueSealed(good ? 3 : 0, "M " + name + "\n");
        dueSealed(0, D + R + "Z " + name + "\n");
    }

    /** "P x, or P x y, two different names" */
    private static void parents() {
        dueSealed(1, D + "P aaaaaa\n" + R);
        dueSealed(1, D + "P aaaaaa aaaaab\n" + R);
        dueSealed(1, D + "P aaaaab aaaaaa\n" + R);
        dueSealed(1, D + "P pppppp aaaaaa\n" + R);
        dueSealed(0, D + "P aaaaaa aaaaaa\n" + R);
        dueSealed(0, D + "P pppppp pppppp\n" + R);
        dueSealed(0, D + "P aaaaaa aaaaab aaaaac\n" + R);
        dueSealed(0, D + "P\n" + R);
        dueSealed(0, D + "P \n" + R);
    }

    /** "T sd x, or T sd *, where s is + or -, d a digit" */
    private static void tags() {
        String[] good = {"+0", "-0", "+9", "-9"};
        for (String tag : good) {
            dueSealed(1, D + R + "T " + tag + " *\n");
            dueSealed(2, D + "T " + tag + " aaaaaa\n");
        }
        String[] none = {"+/", "+:", "-/", "-:", "+10", "-10", "+", "-", "0", "9", ",1", "*1", ".1", "++", "+-1", "1+"};
        for (String tag : none) {
            dueSealed(0, D + R + "T " + tag + " *\n");
            dueSealed(0, D + "T " + tag + " aaaaaa\n");
        }
    }

    /** "the digits of its F cards grow strictly, those of its T cards too, the names of its M cards too" */
    private static void strictlyGrowing() {
        for (int first = 0; first < 10; first++) {
            for (int second = 0; second < 10; second++) {
                boolean grows = second > first;
                dueSealed(grows ? 1 : 0, D + Texts.file(first, 9) + Texts.file(second, 8) + R);
                dueSealed(grows ? 1 : 0, D + R + "T +" + first + " *\nT -" + second + " *\n");
                dueSealed(grows ? 1 : 0, D + R + "T -" + first + " *\nT +" + second + " *\n");
                dueSealed(grows ? 2 : 0, D + Texts.tag("+" + first, 9) + Texts.tag("-" + second, 8));
            }
        }
        int[] members = {0, 1, 15, 16, 65535, 65536, 1 << 23, 16777214, 16777215};
        for (int first : members) {
            for (int second : members) {
                dueSealed(second > first ? 3 : 0, Texts.line('M', first) + Texts.line('M', second));
            }
        }
        dueSealed(0, "M aaaaaa\nM aaaaac\nM aaaaab\n");
        dueSealed(0, "M aaaaaa\nM aaaaac\nM aaaaac\n");
    }

    /** "it has at most one P card" */
    private static void atMostOneParentCard() {
        dueSealed(1, D + R);
        dueSealed(1, D + "P aaaaaa\n" + R);
        dueSealed(0, D + "P aaaaaa\nP aaaaab\n" + R);
        dueSealed(0, D + "P aaaaaa\nP aaaaaa\n" + R);
        dueSealed(0, D + "P aaaaaa aaaaab\nP aaaaac aaaaad\n" + R);
    }

    /** "just one Z card, whose x is the digest of all bytes before that line" */
    private static void justOneSeal() {
        String[] bodies = {MANIFEST, CONTROL, CLUSTER};
        for (int i = 0; i < bodies.length; i++) {
            int digest = Texts.digest(bodies[i]);
            dueKind(0, bodies[i]);
            dueKind(i + 1, bodies[i] + Texts.line('Z', digest));
            dueKind(0, bodies[i] + Texts.line('Z', digest - 1));
            dueKind(0, bodies[i] + Texts.line('Z', digest + 1));
            dueKind(0, bodies[i] + Texts.line('Z', Texts.digest(bodies[i] + "Z ")));
            dueKind(0, bodies[i] + Texts.line('Z', digest) + Texts.line('Z', digest));
            dueKind(0, Texts.sealed(Texts.sealed(bodies[i])));
            dueKind(0, Texts.line('Z', 7) + bodies[i]);
            dueSealed(0, Texts.line('Z', 7) + bodies[i]);
        }
    }

    /** "a MANIFEST has just one D and one R card", "a CONTROL has just one D card, at least one T card", "at least one M" */
    private static void justOneTimeAndOneDigest() {
        dueSealed(0, R);
        dueSealed(0, D);
        dueSealed(1, D + R);
        dueSealed(0, D + D + R);
        dueSealed(0, D + "D 6\n" + R);
        dueSealed(0, D + R + R);
        dueSealed(0, D + R + "R aaaaai\n");
        dueSealed(0, TAG);
        dueSealed(2, D + TAG);
        dueSealed(0, D + D + TAG);
        dueSealed(0, D + "D 6\n" + TAG);
        dueSealed(0, "");
        dueSealed(3, "M aaaaaa\n");
    }

    /** As many F, T and M cards as a text can have. */
    private static void mostCardsOfOneText() {
        StringBuilder files = new StringBuilder(D);
        StringBuilder stars = new StringBuilder(D + R);
        StringBuilder controls = new StringBuilder(D);
        for (int d = 0; d < 10; d++) {
            files.append(Texts.file(d, 100 - d));
            stars.append(d % 2 == 0 ? "T +" : "T -").append(d).append(" *\n");
            controls.append(Texts.tag((d % 2 == 0 ? "+" : "-") + d, 100 - d));
        }
        dueSealed(1, files + R);
        dueSealed(1, files + "P aaaaaa aaaaab\n" + R + "T +0 *\nT -1 *\nT +2 *\nT -3 *\nT +4 *\nT -5 *\nT +6 *\nT -7 *\n");
        dueSealed(1, stars.toString());
        dueSealed(2, controls.toString());
        StringBuilder members = new StringBuilder();
        for (int i = 0; i < 25; i++) {
            members.append(Texts.line('M', 671088 * i));
        }
        dueSealed(3, members.toString());
    }

    /** A line that ends within a card, where no byte stands behind it: plain, and in the draft no F card. */
    private static void linesThatEndTooEarly() {
        String[] lines = (MANIFEST + CONTROL + CLUSTER + "P aaaaaa\n" + "Z aaaaah\n").split("\n");
        for (String line : lines) {
            for (int length = 0; length <= line.length(); length++) {
                String cut = line.substring(0, length) + "\n";
                dueKind(0, cut);
                dueKind(0, D + cut);
                dueKind(0, "x".repeat(239 - length) + cut);
                dueKind(0, "x".repeat(238 - length) + "\n" + cut);
                ArtifactBags x = new ArtifactBags();
                Texts.put(x, 0, Texts.named(15, 4));
                Texts.put(x, 0, Texts.named(15 << 20, 4));
                Texts.write(x, "x".repeat(238 - length) + "\n" + cut);
                boolean whole = length == line.length() && line.charAt(0) == 'F';
                Check.due("whether files(0) is 7 at the end of a full draft", x.files(0) == 7, !whole);
            }
        }
    }

    /** "the first letters of the lines never fall", and which cards each kind has: all rows of up to four cards. */
    private static void eachOrderOfCards() {
        String[] cards = {D, "D 6\n", "F 1 aaaaaa\n", "F 2 aaaaaa\n", "M aaaaaa\n", "M aaaaab\n", "P aaaaaa\n", R,
            "T +1 *\n", "T -2 *\n", TAG, "T -2 aaaaaa\n", "Z aaaaah\n", "X aaaaaa\n"};
        ofCards(cards, "", 4);
    }

    private static void ofCards(String[] cards, String body, int more) {
        dueSealed(Model.kindOf(Texts.sealed(body)), body);
        for (int i = 0; i < cards.length && more > 0; i++) {
            ofCards(cards, body + cards[i], more - 1);
        }
    }

    /** "with single spaces between and nothing else": each byte replaced, left out, or with another one before it. */
    private static void eachByteOfAText() {
        String[] bodies = {MANIFEST, CONTROL, CLUSTER};
        for (String body : bodies) {
            for (int at = 0; at < body.length(); at++) {
                String before = body.substring(0, at);
                dueAsInModel(before + body.substring(at + 1));
                for (char c = 0; c < 256; c++) {
                    dueAsInModel(before + c + body.substring(at + 1));
                }
                String extra = "\n *+-09afp";
                for (int i = 0; i < extra.length(); i++) {
                    dueAsInModel(before + extra.charAt(i) + body.substring(at));
                }
            }
        }
    }

    private static void dueAsInModel(String body) {
        dueSealed(Model.kindOf(Texts.sealed(body)), body);
    }

    /** Promise 5: only lines that are cards count, and only F cards. */
    private static void eachByteOfAFileCardInTheDraft() {
        String line = Texts.file(5, Texts.digest("one"));
        String twin = Texts.file(5, Texts.digest("two"));
        for (int at = 0; at < line.length(); at++) {
            for (char c = 0; c < 256; c++) {
                ArtifactBags x = new ArtifactBags();
                Model model = new Model();
                String draft = twin + line.substring(0, at) + c + line.substring(at + 1) + twin;
                putInBoth(x, model, "one");
                putInBoth(x, model, "two");
                Texts.write(x, draft);
                Texts.write(model, draft);
                Check.due("files of " + draft.replace('\n', '|'), x.files(0), model.files(0));
            }
        }
    }

    private static void putInBoth(ArtifactBags x, Model model, String text) {
        Texts.put(x, 0, text);
        Texts.write(model, text);
        model.put(0);
    }
}
