/** Promise 18: tag. */
public final class TagTest {
    public static void main(String[] args) {
        controlsTagNames();
        manifestsTagThemselves();
        greatestTimeCounts();
        greatestNameCountsOfOneTime();
        whatIsHeldLastDoesNotMatter();
        refusals();
        Check.finish();
    }

    private static String control(int time, String... tags) {
        return Texts.sealed("D " + time + "\n" + String.join("", tags));
    }

    private static void controlsTagNames() {
        ArtifactBags x = new ArtifactBags();
        Texts.put(x, 0, control(1, Texts.tag("+0", 5), Texts.tag("-3", 5), Texts.tag("+9", 6)));
        int[] due = {1, -1, -1, 0, -1, -1, -1, -1, -1, -1};
        for (int d = 0; d < 10; d++) {
            Check.due("tag(0, 5, " + d + ")", x.tag(0, 5, d), due[d]);
            Check.due("tag(0, 6, " + d + ")", x.tag(0, 6, d), d == 9 ? 1 : -1);
            Check.due("tag(1, 5, " + d + ")", x.tag(1, 5, d), -1);
        }
        Texts.put(x, 0, "D 2\n" + Texts.tag("-0", 5));
        Check.due("tag(0, 5, 0) with a plain text", x.tag(0, 5, 0), 1);
    }

    private static void manifestsTagThemselves() {
        ArtifactBags x = new ArtifactBags();
        int on = Texts.put(x, 1, Texts.checkIn(1, "", "T +2 *\nT -4 *\n"));
        int waiting = Texts.put(x, 1, Texts.sealed("D 2\n" + Texts.file(1, 77) + Texts.line('R', 7) + "T -2 *\n"));
        Check.due("tag 2 of itself", x.tag(1, on, 2), 1);
        Check.due("tag 4 of itself", x.tag(1, on, 4), 0);
        Check.due("tag 3 of itself", x.tag(1, on, 3), -1);
        Check.due("tag 2 of a manifest that is no check-in", x.tag(1, waiting, 2), 0);
        Check.due("tag 2 of another name", x.tag(1, 5, 2), -1);
        Check.due("tag 2 of no name", x.tag(1, -1, 2), -1);
        Check.due("tag 4 of no name", x.tag(1, -1, 4), -1);
        Check.due("tag 2 in the other repository", x.tag(0, on, 2), -1);
    }

    private static void greatestTimeCounts() {
        ArtifactBags x = new ArtifactBags();
        int name = Texts.put(x, 0, Texts.checkIn(100, "", "T +2 *\n"));
        Texts.put(x, 0, control(99, Texts.tag("-2", name)));
        Check.due("tag with an earlier control", x.tag(0, name, 2), 1);
        Texts.put(x, 0, control(1000, Texts.tag("-2", name)));
        Check.due("tag with a later control", x.tag(0, name, 2), 0);
        Texts.put(x, 0, control(999, Texts.tag("+2", name)));
        Check.due("tag with one between", x.tag(0, name, 2), 0);
        Texts.put(x, 0, control(9999, Texts.tag("+3", name), Texts.tag("+4", 5)));
        Check.due("tag with another digit", x.tag(0, name, 2), 0);
        ArtifactBags y = new ArtifactBags();
        Texts.put(y, 0, control(0, Texts.tag("-2", 5)));
        Check.due("tag of time 0", y.tag(0, 5, 2), 0);
    }

    /** Controls of one time, of which each has another name; also the manifest itself among them. */
    private static void greatestNameCountsOfOneTime() {
        for (int time = 0; time < 40; time++) {
            String itself = Texts.checkIn(time, "", "T +2 *\n");
            int name = Texts.digest(itself);
            String off = control(time, Texts.tag("-2", name));
            String on = control(time, Texts.tag("+2", name), Texts.tag("+3", name));
            int last = Math.max(name, Math.max(Texts.digest(off), Texts.digest(on)));
            for (int turn = 0; turn < 3; turn++) {
                ArtifactBags x = new ArtifactBags();
                String[] texts = {itself, off, on};
                for (int i = 0; i < 3; i++) {
                    Texts.put(x, 0, texts[(turn + i) % 3]);
                }
                Check.due("tag(0, " + name + ", 2)", x.tag(0, name, 2), last == Texts.digest(off) ? 0 : 1);
            }
        }
    }

    private static void whatIsHeldLastDoesNotMatter() {
        String[] texts = {control(5, Texts.tag("+1", 9)), control(6, Texts.tag("-1", 9)), control(4, Texts.tag("+1", 9))};
        for (int turn = 0; turn < 3; turn++) {
            ArtifactBags x = new ArtifactBags();
            for (int i = 0; i < 3; i++) {
                Texts.put(x, 0, texts[(turn + i) % 3]);
            }
            Check.due("tag(0, 9, 1)", x.tag(0, 9, 1), 0);
        }
    }

    private static void refusals() {
        ArtifactBags x = new ArtifactBags();
        Texts.put(x, 0, control(1, Texts.tag("+0", 5), Texts.tag("+9", 5)));
        Texts.put(x, 1, control(1, Texts.tag("+0", 5), Texts.tag("+9", 5)));
        int[] none = {-1, 2, Integer.MIN_VALUE, Integer.MAX_VALUE};
        for (int repository : none) {
            Check.due("tag(" + repository + ", 5, 0)", x.tag(repository, 5, 0), -1);
        }
        int[] noDigits = {-1, 10, Integer.MIN_VALUE, Integer.MAX_VALUE};
        for (int d : noDigits) {
            Check.due("tag(0, 5, " + d + ")", x.tag(0, 5, d), -1);
        }
        int[] noNames = {-1, -2, 16777216, Integer.MIN_VALUE, Integer.MAX_VALUE};
        for (int name : noNames) {
            Check.due("tag(0, " + name + ", 0)", x.tag(0, name, 0), -1);
        }
    }
}
