/** The boundary cases of the paragraph ARTIFACTS: lengths, bytes, digests, names, how many are held. */
public final class ArtifactEdgeTest {
    private static final int TOP_HELD = 16777212;
    private static final int TOP = 16777215;

    public static void main(String[] args) {
        lengthsAre1To240();
        bytesAre0To255();
        digestsWrapAround();
        digestsNeedMoreThan32Bits();
        lettersAreTheDigitsBy16();
        namesThatNothingHas();
        numbersThatAreNoNames();
        the32ndAndThe33rd();
        noTwoOfOneName();
        whatIsHeldStays();
        Check.finish();
    }

    /** "rows of 1 to 240 bytes" */
    private static void lengthsAre1To240() {
        for (int r = 0; r < 2; r++) {
            int[] lengths = {1, 2, 239, 240};
            for (int length : lengths) {
                ArtifactBags x = new ArtifactBags();
                String text = "\u0080".repeat(length);
                Check.due("put of " + length + " bytes", Texts.put(x, r, text), Texts.digest(text));
                Texts.dueHeld(x, r, text);
            }
            ArtifactBags x = new ArtifactBags();
            Check.due("put of 0 bytes", x.put(r), -1);
            Check.due("held after it", x.held(r), 0);
            Texts.write(x, "y".repeat(240));
            Check.due("raw of the 241st byte", x.raw('z', 1), -1);
            Check.due("put of 240 bytes", x.put(r), Texts.digest("y".repeat(240)));
            Texts.dueHeld(x, r, "y".repeat(240));
        }
    }

    /** "bytes 0 .. 255" */
    private static void bytesAre0To255() {
        for (int b = 0; b < 256; b++) {
            ArtifactBags x = new ArtifactBags();
            Check.due("raw of byte " + b, x.raw(b, 1), 1);
            int name = (257 * 7 + b + 1) % 16777213;
            Check.due("put of byte " + b, x.put(0), name);
            Check.due("octet of byte " + b, x.octet(0, name, 0), b);
            Check.due("kind of byte " + b, x.kind(0, name), 0);
        }
    }

    private static void dueName(int name, String text) {
        ArtifactBags x = new ArtifactBags();
        Texts.write(x, text);
        Check.due("put of what has the name " + name, x.put(1), name);
        Check.due("name(1, 0)", x.name(1, 0), name);
        Check.due("kind(1, " + name + ")", x.kind(1, name), 0);
        Texts.dueHeld(x, 1, text);
    }

    /** "(257 * digest + b + 1) mod 16777213": the least and the greatest digests, a step before and behind the wrap. */
    private static void digestsWrapAround() {
        int[] names = {0, 1, 2, TOP_HELD - 1, TOP_HELD};
        for (int name : names) {
            dueName(name, Texts.named(name, 4));
            dueName(name, Texts.named(name, 240));
        }
        // 257 * 65280 is 16776960, so that b + 1 = 252 is the last before the wrap.
        String start = Texts.named(65280, 4);
        dueName(TOP_HELD, start + (char) 251);
        dueName(0, start + (char) 252);
        dueName(1, start + (char) 253);
        dueName(3, start + (char) 255);
    }

    /** 257 * 16777212 + 256 is more than an int holds, and more than twice as much. */
    private static void digestsNeedMoreThan32Bits() {
        String start = Texts.named(TOP_HELD, 4);
        dueName((int) ((257L * TOP_HELD + 256) % 16777213), start + (char) 255);
        dueName((int) ((257L * TOP_HELD + 1) % 16777213), start + (char) 0);
    }

    private static void dueLetters(int name, String letters) {
        ArtifactBags x = new ArtifactBags();
        Check.due("card(2, " + name + ", 0)", x.card(2, name, 0), 9);
        Check.due("put of M " + letters, x.put(0), Texts.digest("M " + letters + "\n"));
        Texts.put(x, 1, "M " + letters + "\n" + Texts.line('Z', Texts.digest("M " + letters + "\n")));
        Check.due("wanted(1) of M " + letters, x.wanted(1), 1);
        Check.due("wants(1, " + name + ") of M " + letters, x.wants(1, name), true);
    }

    /** "six letters a .. p (a for 0, b for 1, .. p for 15), its digits by 16, the highest first" */
    private static void lettersAreTheDigitsBy16() {
        dueLetters(0, "aaaaaa");
        dueLetters(1, "aaaaab");
        dueLetters(15, "aaaaap");
        dueLetters(16, "aaaaba");
        dueLetters(255, "aaaapp");
        dueLetters(256, "aaabaa");
        dueLetters(1 << 20, "baaaaa");
        dueLetters((1 << 20) - 1, "appppp");
        dueLetters(15 << 20, "paaaaa");
        dueLetters(0x123456, "bcdefg");
        dueLetters(0x789abc, "hijklm");
        dueLetters(0xdef012, "nopabc");
        dueLetters(TOP_HELD + 1, "pppppn");
        dueLetters(TOP, "pppppp");
    }

    /** "Numbers 0 .. 16777215 are called names here, also where nothing has that name." */
    private static void namesThatNothingHas() {
        int[] names = {0, 1, TOP_HELD, TOP_HELD + 1, TOP_HELD + 2, TOP};
        for (int name : names) {
            ArtifactBags x = new ArtifactBags();
            Check.due("card(1, 0, " + name + ")", x.card(1, 0, name), 11);
            Check.due("card(2, " + name + ", 0)", x.card(2, name, 0), 20);
            Check.due("card(3, " + name + ", 5)", x.card(3, name, 5), 36);
            Check.due("card(3, 5, " + name + ")", x.card(3, 5, name), 52);
            Check.due("card(4, " + name + ", 0)", x.card(4, name, 0), 61);
            Check.due("card(5, 9, " + name + ")", x.card(5, 9, name), 73);
            x.drop();
            Texts.put(x, 0, Texts.checkIn(1, Texts.line('P', name), ""));
            Texts.put(x, 0, Texts.sealed("D 1\n" + Texts.tag("+5", name)));
            Check.due("wants(0, " + name + ")", x.wants(0, name), true);
            Check.due("children(0, " + name + ")", x.children(0, name), 1);
            Check.due("tag(0, " + name + ", 5)", x.tag(0, name, 5), 1);
            Check.due("kind(0, " + name + ")", x.kind(0, name), -1);
            Check.due("octet(0, " + name + ", 0)", x.octet(0, name, 0), -1);
        }
    }

    /** A number beyond them is no name: nothing has it, wants it or tells of it. */
    private static void numbersThatAreNoNames() {
        ArtifactBags x = new ArtifactBags();
        int first = Texts.put(x, 0, Texts.checkIn(1, "P aaaaaa pppppp\n", "T +5 *\n"));
        Texts.put(x, 0, Texts.checkIn(2, "P aaaaab\n", "T +5 *\n"));
        Texts.put(x, 0, Texts.sealed("D 1\n" + Texts.tag("+5", 0) + Texts.tag("+6", TOP)));
        Texts.put(x, 0, Texts.sealed("D 1\n" + Texts.tag("+4", 0) + Texts.tag("+5", TOP)));
        Texts.put(x, 0, Texts.named(0, 4));
        int[] numbers = {-1, -2, TOP + 1, TOP + 2, 2 * TOP + 2, first + TOP + 1, first - TOP - 1, Integer.MIN_VALUE,
            Integer.MAX_VALUE, Integer.MIN_VALUE + first};
        for (int number : numbers) {
            Check.due("wants(0, " + number + ")", x.wants(0, number), false);
            Check.due("children(0, " + number + ")", x.children(0, number), 0);
            Check.due("tag(0, " + number + ", 5)", x.tag(0, number, 5), -1);
            Check.due("kind(0, " + number + ")", x.kind(0, number), -1);
            Check.due("octet(0, " + number + ", 0)", x.octet(0, number, 0), -1);
            Check.due("card(2, " + number + ", 0)", x.card(2, number, 0), -1);
            Check.due("card(4, " + number + ", 0)", x.card(4, number, 0), -1);
        }
        Check.due("wants(0, 0), which is held", x.wants(0, 0), false);
        Check.due("wants(0, 1)", x.wants(0, 1), true);
        Check.due("wants(0, 16777215)", x.wants(0, TOP), true);
    }

    /** "REPOSITORIES 0 and 1 each hold at most 32 artifacts" */
    private static void the32ndAndThe33rd() {
        for (int r = 0; r < 2; r++) {
            ArtifactBags x = new ArtifactBags();
            for (int i = 0; i < 31; i++) {
                Texts.put(x, r, Texts.named(1000 + i, 4));
            }
            Check.due("held(" + r + ") of 31", x.held(r), 31);
            Check.due("name(" + r + ", 31) of 31", x.name(r, 31), -1);
            Texts.put(x, r, Texts.named(2000, 4));
            Check.due("held(" + r + ") of 32", x.held(r), 32);
            Check.due("name(" + r + ", 31) of 32", x.name(r, 31), 2000);
            Texts.write(x, Texts.named(500, 4));
            Check.due("put of the 33rd", x.put(r), -1);
            Check.due("held(" + r + ") after the 33rd", x.held(r), 32);
            Check.due("name(" + r + ", 0) after the 33rd", x.name(r, 0), 1000);
            Check.due("name(" + r + ", 32) after the 33rd", x.name(r, 32), -1);
            Check.due("kind(" + r + ", 500)", x.kind(r, 500), -1);
            Check.due("put of the 33rd elsewhere", x.put(1 - r), 500);
            Check.due("held(" + (1 - r) + ")", x.held(1 - r), 1);
        }
    }

    /** "no two of one name"; of a full repository, too: what has a held name is no further one. */
    private static void noTwoOfOneName() {
        ArtifactBags x = new ArtifactBags();
        for (int i = 0; i < 32; i++) {
            Texts.put(x, 0, Texts.named(7 * i, 4));
            Texts.put(x, 0, Texts.named(7 * i, 5));
            Check.due("held(0)", x.held(0), i + 1);
        }
        Texts.put(x, 0, Texts.named(7 * 31, 5));
        Check.due("the draft behind it", x.drop(), 0);
        Texts.dueHeld(x, 0, Texts.named(7 * 31, 4));
        Texts.put(x, 1, Texts.named(7 * 31, 5));
        Texts.dueHeld(x, 1, Texts.named(7 * 31, 5));
    }

    /** "what is held stays": after puts, rounds and rebuilds each byte is as it was. */
    private static void whatIsHeldStays() {
        ArtifactBags x = new ArtifactBags();
        Texts.put(x, 0, Texts.named(9000, 4));
        Texts.put(x, 1, Texts.named(9000, 6));
        for (int i = 0; i < 6; i++) {
            Texts.put(x, 0, Texts.named(8997 + (i < 3 ? i : i + 1), 4));
            x.round(10000);
            x.rebuild(0);
            x.rebuild(1);
            Texts.dueHeld(x, 0, Texts.named(9000, 4));
            Texts.dueHeld(x, 1, Texts.named(9000, 6));
        }
    }
}
