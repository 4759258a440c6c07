/** "An object is used for at most 512 calls": the 512th is answered like any other, whatever the 511 before it were. */
public final class LastCallTest {
    private static final int CALLS = 512;

    public static void main(String[] args) {
        puts();
        cards();
        drops();
        longRowsOfFiles();
        rounds();
        rebuilds();
        refusals();
        Check.finish();
    }

    /** 256 rows of one byte each: 32 are held, the others are refused and stay in the draft. */
    private static void puts() {
        ArtifactBags x = new ArtifactBags();
        Model model = new Model();
        for (int i = 0; i < CALLS / 2; i++) {
            Check.due("raw(" + i + ", 1)", x.raw(i, 1), model.raw(i, 1));
            Check.due("put(1) of row " + i, x.put(1), model.put(1));
        }
        Check.due("held(1) of the model", model.held(1), 32);
    }

    /** 60 cards of four bytes fill the draft; all later ones are refused. */
    private static void cards() {
        ArtifactBags x = new ArtifactBags();
        for (int i = 0; i < CALLS; i++) {
            Check.due("card(0, 7, 0) of number " + i, x.card(0, 7, 0), i < 60 ? 4 * i + 4 : -1);
        }
    }

    private static void drops() {
        ArtifactBags x = new ArtifactBags();
        for (int i = 0; i < CALLS / 2; i++) {
            Check.due("raw(-1, " + (i % 8 + 1) + ")", x.raw(-1, i % 8 + 1), i % 8 + 1);
            Check.due("drop() of number " + i, x.drop(), i % 8 + 1);
        }
    }

    /** The draft has as many cards as it can, F cards first: each call reads them all. */
    private static void longRowsOfFiles() {
        ArtifactBags x = new ArtifactBags();
        int file = Texts.put(x, 0, "f".repeat(240));
        int calls = 31;
        for (int i = 0; i < 21; i++) {
            Check.due("card(1, 5, " + file + ")", x.card(1, 5, file), 11 * i + 11);
            calls++;
        }
        int due = Texts.digest("f".repeat(240 * 21));
        for (; calls < CALLS; calls++) {
            Check.due("files(0) as call " + calls, x.files(0), due);
        }
    }

    /** Two full repositories of other names tell, ask and send to the end, and nothing is taken. */
    private static void rounds() {
        ArtifactBags x = new ArtifactBags();
        Model model = new Model();
        int calls = 0;
        for (int i = 0; i < 64; i++) {
            String text = "r" + i;
            Texts.write(x, text);
            Texts.write(model, text);
            Check.due("put(" + i % 2 + ")", x.put(i % 2), model.put(i % 2));
            calls += 2;
        }
        for (; calls < CALLS; calls++) {
            int budget = calls % 200;
            Check.due("round(" + budget + ") as call " + calls, x.round(budget), model.round(budget));
        }
    }

    private static void rebuilds() {
        ArtifactBags x = new ArtifactBags();
        int calls = 0;
        for (int i = 0; i < 32; i++) {
            String text = Texts.checkIn(i, Texts.line('P', i), "");
            Texts.put(x, 0, text);
            calls += (text.length() + 7) / 8 + 1;
        }
        for (; calls < CALLS; calls++) {
            Check.due("rebuild(0) as call " + calls, x.rebuild(0), 32);
        }
    }

    private static void refusals() {
        ArtifactBags x = new ArtifactBags();
        for (int i = 0; i < CALLS - 1; i++) {
            Check.due("put(0) of the empty draft", x.put(0), -1);
        }
        Check.due("held(0)", x.held(0), 0);
    }
}
