/** Promise 11: kind, with all that makes a text a manifest, a control or a cluster. */
public final class KindTest {
    private static final String D = "D 5\n";
    private static final String R = "R aaaaah\n";
    private static final String F1 = "F 1 aaaaaa\n";
    private static final String F2 = "F 2 aaaaaa\n";
    private static final String P = "P aaaaab\n";
    private static final String STAR = "T +1 *\n";
    private static final String NAMED = "T +1 aaaaaa\n";
    private static final String M = "M aaaaaa\n";

    public static void main(String[] args) {
        manifests();
        controls();
        clusters();
        order();
        repeated();
        lines();
        seals();
        refusals();
        Check.finish();
    }

    private static void dueKind(int kind, String text) {
        ArtifactBags x = new ArtifactBags();
        int name = Texts.put(x, 1, text);
        Check.due("kind of " + text.replace('\n', '|'), x.kind(1, name), kind);
        Check.due("kind in the other repository", x.kind(0, name), -1);
    }

    private static void dueSealed(int kind, String body) {
        dueKind(kind, Texts.sealed(body));
    }

    private static void manifests() {
        dueSealed(1, D + R);
        dueSealed(1, D + F1 + F2 + P + R + STAR);
        dueSealed(1, D + F2 + R + "T -0 *\n" + STAR + "T -9 *\n");
        dueSealed(1, D + "P aaaaab aaaaaa\n" + R);
        dueSealed(1, "D 0\n" + "R pppppp\n");
        dueSealed(0, R);
        dueSealed(0, D);
        dueSealed(0, D + F1);
        dueSealed(0, F1 + R);
        dueSealed(0, D + M + R);
        dueSealed(0, D + R + NAMED);
        dueSealed(0, D + R + STAR + "T +2 aaaaaa\n");
    }

    private static void controls() {
        dueSealed(2, D + NAMED);
        dueSealed(2, D + NAMED + "T -2 aaaaaa\n" + "T +9 pppppp\n");
        dueSealed(0, NAMED);
        dueSealed(0, D + STAR);
        dueSealed(0, D + NAMED + "T +2 *\n");
        dueSealed(0, D + F1 + NAMED);
        dueSealed(0, D + M + NAMED);
        dueSealed(0, D + P + NAMED);
    }

    private static void clusters() {
        dueSealed(3, M);
        dueSealed(3, M + "M aaaaab\n" + "M baaaaa\n" + "M pppppp\n");
        dueSealed(0, "");
        dueSealed(0, D + M);
        dueSealed(0, F1 + M);
        dueSealed(0, M + P);
        dueSealed(0, M + R);
        dueSealed(0, M + NAMED);
        dueSealed(0, M + STAR);
    }

    private static void order() {
        dueSealed(0, R + D);
        dueSealed(0, F1 + D + R);
        dueSealed(0, D + R + F1);
        dueSealed(0, D + P + F1 + R);
        dueSealed(0, D + R + P);
        dueSealed(0, D + STAR + R);
        dueSealed(0, NAMED + D);
        dueSealed(0, D + F2 + F1 + R);
        dueSealed(0, D + R + "T +2 *\n" + STAR);
        dueSealed(0, D + "T +2 aaaaaa\n" + NAMED);
        dueSealed(0, "M aaaaab\n" + M);
        dueSealed(0, "M baaaaa\n" + "M abaaaa\n");
    }

    private static void repeated() {
        dueSealed(0, D + "D 6\n" + R);
        dueSealed(0, D + D + NAMED);
        dueSealed(0, D + R + R);
        dueSealed(0, D + F1 + "F 1 aaaaab\n" + R);
        dueSealed(0, D + P + "P aaaaac\n" + R);
        dueSealed(0, D + R + STAR + "T -1 *\n");
        dueSealed(0, D + NAMED + "T -1 aaaaab\n");
        dueSealed(0, M + M);
        dueSealed(0, Texts.sealed(M));
        dueSealed(0, Texts.sealed(D + R));
    }

    private static void lines() {
        String[] noTimes = {"D \n", "D\n", "D 00\n", "D 05\n", "D 0005\n", "D 10000\n", "D -1\n", "D +1\n", "D 5 \n",
            "D  5\n", "D 5x\n", "D :\n", "D /\n", "d 5\n", " D 5\n", "D5\n", "D\t5\n", "\n" + D, D + "\n", "D 5\r\n"};
        for (String time : noTimes) {
            dueSealed(0, time + R);
            dueSealed(0, time + NAMED);
        }
        String[] times = {"D 0\n", "D 9\n", "D 10\n", "D 999\n", "D 9999\n", "D 1000\n"};
        for (String time : times) {
            dueSealed(1, time + R);
            dueSealed(2, time + NAMED);
        }
        String[] noParents = {"P aaaaaa aaaaaa\n", "P \n", "P aaaaa\n", "P aaaaaaa\n", "P aaaaaa \n", "P aaaaaa  aaaaab\n",
            "P aaaaaa aaaaaq\n", "P aaaaaa-aaaaab\n", "P aaaaaA aaaaab\n", "P aaaaaa aaaaab aaaaac\n", "P  aaaaaa\n"};
        for (String parents : noParents) {
            dueSealed(0, D + parents + R);
        }
        String[] noTags = {"T +1\n", "T +1 \n", "T 1 *\n", "T *1 *\n", "T +a *\n", "T +: *\n", "T +/ *\n", "T ++1 *\n",
            "T +1 **\n", "T +1 * \n", "T +1  *\n", "T + 1 *\n", "T +10 *\n", "T +1-*\n", "T +1 x\n", "T +1 aaaaa*\n"};
        for (String tag : noTags) {
            dueSealed(0, D + R + tag);
        }
        String[] noNamedTags = {"T +1 aaaaa\n", "T +1 aaaaaaa\n", "T +1 aaaaaq\n", "T +1_aaaaaa\n", "T 01 aaaaaa\n"};
        for (String tag : noNamedTags) {
            dueSealed(0, D + tag);
        }
        String[] noMembers = {"M aaaaa\n", "M aaaaaaa\n", "M aaaaaq\n", "M aaaaa`\n", "M aaaaaA\n", "M aaaaaa aaaaab\n",
            "M  aaaaaa\n", "m aaaaaa\n", "Maaaaaaa\n", "M aaaaaa\0\n", "M aaaaa\u00e1\n"};
        for (String member : noMembers) {
            dueSealed(0, member);
            dueSealed(0, member + "M baaaaa\n");
        }
        dueSealed(0, D + "R aaaaa\n");
        dueSealed(0, D + "R aaaaaaa\n");
        dueSealed(0, D + "E 5\n" + R);
        dueSealed(0, D + F1 + "\n" + R);
    }

    private static void seals() {
        String body = D + R;
        String text = Texts.sealed(body);
        dueKind(0, body);
        dueKind(0, text.substring(0, text.length() - 1));
        dueKind(0, text + "\n");
        dueKind(0, text + "x");
        dueKind(0, text + D);
        dueKind(0, "\n" + text);
        dueKind(0, body + Texts.line('Z', Texts.digest(body) + 1));
        dueKind(0, body + Texts.line('Z', Texts.digest(body)).replace("\n", " \n"));
        dueKind(0, body + Texts.line('Z', Texts.digest(text)));
        dueKind(0, body + Texts.line('Z', 7));
        dueKind(0, "D 6\n" + R + Texts.line('Z', Texts.digest(body)));
        dueKind(0, "Z aaaaah\n");
        dueKind(0, "\n");
        dueKind(0, "\n".repeat(240));
        dueKind(0, "D 0\n".repeat(60));
        dueKind(0, "x");
        dueKind(0, "\u00c4 5\n");
        dueKind(3, Texts.sealed(manyMembers()));
    }

    private static String manyMembers() {
        StringBuilder body = new StringBuilder();
        for (int i = 0; i < 25; i++) {
            body.append(Texts.line('M', 600000 * i));
        }
        return body.toString();
    }

    private static void refusals() {
        ArtifactBags x = new ArtifactBags();
        int name = Texts.put(x, 0, Texts.sealed(D + R));
        Check.due("kind(2, ..)", x.kind(2, name), -1);
        Check.due("kind(-1, ..)", x.kind(-1, name), -1);
        Check.due("kind of a name not held", x.kind(0, name - 1), -1);
        Check.due("kind of name -1", x.kind(0, -1), -1);
        Check.due("kind", x.kind(0, name), 1);
    }
}
