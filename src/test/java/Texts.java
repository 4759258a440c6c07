import java.nio.charset.StandardCharsets;

/** Texts of cards as the document writes them, made without the program under test. */
final class Texts {
    private Texts() {
    }

    static byte[] bytes(String text) {
        return text.getBytes(StandardCharsets.ISO_8859_1);
    }

    static int digest(String text) {
        return digest(7, bytes(text));
    }

    static int digest(int start, byte[] bytes) {
        long digest = start;
        for (byte b : bytes) {
            digest = (257L * digest + (b & 255) + 1) % 16777213L;
        }
        return (int) digest;
    }

    /** A row of bytes of a given name (0 .. 16777212) and a length of at least 4; it is no text of cards. */
    static String named(int name, int length) {
        String start = "x".repeat(length - 4);
        for (char first = 0; first < 256; first++) {
            long due = Math.floorMod(name - 257L * 257 * 257 * digest(start + first), 16777213L);
            for (long rest = due; rest < 257L * 257 * 257; rest += 16777213L) {
                long high = rest / (257 * 257);
                long middle = rest / 257 % 257;
                long low = rest % 257;
                // A digit 0 stands for no byte, as each byte counts for one more.
                if (high > 0 && middle > 0 && low > 0) {
                    return start + first + (char) (high - 1) + (char) (middle - 1) + (char) (low - 1);
                }
            }
        }
        throw new IllegalStateException("no row of " + length + " bytes has the name " + name);
    }

    static String letters(int name) {
        StringBuilder letters = new StringBuilder();
        for (char digit : String.format("%06x", name).toCharArray()) {
            letters.append((char) ('a' + Character.digit(digit, 16)));
        }
        return letters.toString();
    }

    static String line(char letter, int name) {
        return letter + " " + letters(name) + "\n";
    }

    static String file(int digit, int name) {
        return "F " + digit + " " + letters(name) + "\n";
    }

    static String tag(String signAndDigit, int name) {
        return "T " + signAndDigit + " " + letters(name) + "\n";
    }

    /** The body with the Z card that belongs to it. */
    static String sealed(String body) {
        return body + line('Z', digest(body));
    }

    /** A manifest without files: always a check-in. */
    static String checkIn(int time, String parents, String tags) {
        return sealed("D " + time + "\n" + parents + line('R', 7) + tags);
    }

    static void write(ArtifactBags x, String text) {
        byte[] bytes = bytes(text);
        for (int at = 0; at < bytes.length; at += 8) {
            int n = Math.min(8, bytes.length - at);
            long packed = 0;
            for (int i = 0; i < n; i++) {
                packed |= (bytes[at + i] & 255L) << (8 * i);
            }
            Check.due("raw of " + n + " bytes", x.raw(packed, n), at + n);
        }
    }

    static void write(Model model, String text) {
        for (byte b : bytes(text)) {
            model.raw(b, 1);
        }
    }

    /** Writes a text to the empty draft and puts it; answers its name. */
    static int put(ArtifactBags x, int repository, String text) {
        write(x, text);
        int name = digest(text);
        Check.due("put(" + repository + ")", x.put(repository), name);
        return name;
    }

    static void dueHeld(ArtifactBags x, int repository, String text) {
        byte[] bytes = bytes(text);
        int name = digest(text);
        for (int k = 0; k < bytes.length; k++) {
            Check.due("octet(" + repository + ", " + name + ", " + k + ")", x.octet(repository, name, k), bytes[k] & 255);
        }
        Check.due("octet behind the last of " + name, x.octet(repository, name, bytes.length), -1);
    }
}
