import java.util.Arrays;

/** Two repositories of artifacts that are named by their contents; DOC.md tells what each call promises. */
public final class ArtifactBags {
    public static final int NONE = -1;

    private static final int MOST_BYTES = 240;
    private static final int MOST_HELD = 32;
    private static final int MOST_BUDGET = 10000;
    private static final int GREATEST_NAME = 16777215;
    private static final int GREATEST_TIME = 9999;
    private static final int NAME_LETTERS = 6;
    private static final int LINE_END = 10;
    private static final int EMPTY_DIGEST = 7;
    private static final long DIGEST_FACTOR = 257;
    private static final long DIGEST_MODULUS = 16777213;
    private static final int MOST_LEFT_LOOSE = 5;
    private static final int MOST_IN_NEW_CLUSTER = 20;

    private static final int PLAIN = 0;
    private static final int MANIFEST = 1;
    private static final int CONTROL = 2;
    private static final int CLUSTER = 3;

    private final Bag zeroth;
    private final Bag other;
    private final Row draft;
    private final Row scratch;

    public ArtifactBags() {
        zeroth = new Bag();
        other = new Bag();
        draft = new Row();
        scratch = new Row();
    }

    public int card(int kind, int a, int b) {
        if (!isWritable(kind, a, b)) {
            return NONE;
        }
        // The card is written aside first, so that one too long leaves the draft as it was.
        scratch.clear();
        writeCard(kind, a, b);
        if (!draft.hasRoomFor(scratch.length)) {
            return NONE;
        }
        draft.addRow(scratch);
        return draft.length;
    }

    public int raw(long bytes, int n) {
        if (n < 1 || n > 8 || !draft.hasRoomFor(n)) {
            return NONE;
        }
        for (int i = 0; i < n; i++) {
            draft.add((int) (bytes >>> (8 * i)));
        }
        return draft.length;
    }

    public int drop() {
        int length = draft.length;
        draft.clear();
        return length;
    }

    public int files(int repository) {
        Bag bag = bagOf(repository);
        if (bag == null) {
            return NONE;
        }
        int digest = EMPTY_DIGEST;
        int start = 0;
        for (int i = 0; i < draft.length && digest != NONE; i++) {
            if (draft.bytes[i] == LINE_END) {
                digest = bag.digestWithFile(digest, Card.read(draft.bytes, start, i));
                start = i + 1;
            }
        }
        return digest;
    }

    public int put(int repository) {
        Bag bag = bagOf(repository);
        if (bag == null || draft.length == 0) {
            return NONE;
        }
        int name = draft.digest();
        if (!bag.holds(name)) {
            if (bag.isFull()) {
                return NONE;
            }
            bag.take(Artifact.of(draft));
        }
        draft.clear();
        return name;
    }

    public int round(int budget) {
        if (budget < 0 || budget > MOST_BUDGET) {
            return NONE;
        }
        zeroth.gatherCluster(scratch);
        other.gatherCluster(scratch);
        int sent = zeroth.sendTo(other, budget);
        return sent + other.sendTo(zeroth, budget);
    }

    public int held(int repository) {
        Bag bag = bagOf(repository);
        return bag == null ? NONE : bag.count;
    }

    public int name(int repository, int k) {
        Bag bag = bagOf(repository);
        return bag == null || k < 0 || k >= bag.count ? NONE : bag.artifacts[k].name;
    }

    public int octet(int repository, int name, int k) {
        Artifact artifact = artifactOf(repository, name);
        if (artifact == null || k < 0 || k >= artifact.bytes.length) {
            return NONE;
        }
        return artifact.bytes[k] & 255;
    }

    public int kind(int repository, int name) {
        Artifact artifact = artifactOf(repository, name);
        return artifact == null ? NONE : artifact.sort;
    }

    public int wanted(int repository) {
        Bag bag = bagOf(repository);
        return bag == null ? NONE : bag.missing.size;
    }

    public boolean wants(int repository, int name) {
        Bag bag = bagOf(repository);
        return bag != null && bag.missing.contains(name);
    }

    public int checkIns(int repository) {
        Bag bag = bagOf(repository);
        return bag == null ? NONE : bag.history.count;
    }

    public int timeline(int repository, int k) {
        Bag bag = bagOf(repository);
        return bag == null ? NONE : bag.history.nameAt(k);
    }

    public int children(int repository, int name) {
        Bag bag = bagOf(repository);
        return bag == null ? NONE : bag.history.countChildren(name);
    }

    public int leaves(int repository) {
        Bag bag = bagOf(repository);
        return bag == null ? NONE : bag.history.countLeaves();
    }

    public int tag(int repository, int name, int d) {
        Bag bag = bagOf(repository);
        return bag == null || !isDigit(d) ? NONE : bag.tagOf(name, d);
    }

    public int loose(int repository) {
        Bag bag = bagOf(repository);
        return bag == null ? NONE : bag.countLoose();
    }

    public int rebuild(int repository) {
        Bag bag = bagOf(repository);
        if (bag == null) {
            return NONE;
        }
        bag.deriveAnew();
        return bag.history.count;
    }

    private Bag bagOf(int repository) {
        if (repository == 0) {
            return zeroth;
        }
        return repository == 1 ? other : null;
    }

    private Artifact artifactOf(int repository, int name) {
        Bag bag = bagOf(repository);
        return bag == null ? null : bag.find(name);
    }

    private static boolean isName(int number) {
        return number >= 0 && number <= GREATEST_NAME;
    }

    private static boolean isDigit(int number) {
        return number >= 0 && number <= 9;
    }

    private static boolean isWritable(int kind, int a, int b) {
        switch (kind) {
            case 0:
                return a >= 0 && a <= GREATEST_TIME;
            case 1:
                return isDigit(a) && isName(b);
            case 2:
            case 4:
                return isName(a);
            case 3:
                return isName(a) && (b == NONE || isName(b) && a != b);
            case 5:
                return (isDigit(a) || isDigit(-1 - a)) && (b == NONE || isName(b));
            default:
                return kind == 6;
        }
    }

    private void writeCard(int kind, int a, int b) {
        switch (kind) {
            case 0:
                scratch.addTimeCard(a);
                break;
            case 1:
                scratch.addFileCard(a, b);
                break;
            case 2:
                scratch.addNameCard('M', a);
                break;
            case 3:
                scratch.addParentCard(a, b);
                break;
            case 4:
                scratch.addNameCard('R', a);
                break;
            case 5:
                scratch.addTagCard(a, b);
                break;
            default:
                scratch.addNameCard('Z', draft.digest());
                break;
        }
    }

    private static int digestAfter(int digest, byte[] bytes, int length) {
        long grown = digest;
        for (int i = 0; i < length; i++) {
            grown = (DIGEST_FACTOR * grown + (bytes[i] & 255) + 1) % DIGEST_MODULUS;
        }
        return (int) grown;
    }

    /** Bytes in the making: the draft, a card of it, or the text of a new cluster. */
    private static final class Row {
        private final byte[] bytes;
        private int length;

        Row() {
            bytes = new byte[MOST_BYTES];
            length = 0;
        }

        void clear() {
            length = 0;
        }

        boolean hasRoomFor(int more) {
            return length + more <= MOST_BYTES;
        }

        int digest() {
            return digestAfter(EMPTY_DIGEST, bytes, length);
        }

        void add(int octet) {
            if (length < MOST_BYTES) {
                bytes[length] = (byte) octet;
                length++;
            }
        }

        void addRow(Row row) {
            for (int i = 0; i < row.length; i++) {
                add(row.bytes[i]);
            }
        }

        void addTimeCard(int time) {
            add('D');
            add(' ');
            for (int unit = 1000; unit > 0; unit /= 10) {
                if (time >= unit || unit == 1) {
                    add('0' + time / unit % 10);
                }
            }
            add(LINE_END);
        }

        void addFileCard(int digit, int name) {
            add('F');
            add(' ');
            add('0' + digit);
            addSpaceAndName(name);
            add(LINE_END);
        }

        void addNameCard(int letter, int name) {
            add(letter);
            addSpaceAndName(name);
            add(LINE_END);
        }

        void addParentCard(int parent, int second) {
            add('P');
            addSpaceAndName(parent);
            if (second != NONE) {
                addSpaceAndName(second);
            }
            add(LINE_END);
        }

        void addTagCard(int signedDigit, int name) {
            add('T');
            add(' ');
            add(signedDigit >= 0 ? '+' : '-');
            add('0' + (signedDigit >= 0 ? signedDigit : -1 - signedDigit));
            if (name == NONE) {
                add(' ');
                add('*');
            } else {
                addSpaceAndName(name);
            }
            add(LINE_END);
        }

        private void addSpaceAndName(int name) {
            add(' ');
            for (int i = NAME_LETTERS - 1; i >= 0; i--) {
                add('a' + ((name >> (4 * i)) & 15));
            }
        }
    }

    /** A line that is a card. What its letter does not use is NONE (or false). */
    private static final class Card {
        private final int letter;
        private final int digit;
        private final boolean plus;
        /** The number of a D card; the first name of any other, NONE for a star. */
        private final int x;
        private final int y;

        private Card(int letter, int digit, boolean plus, int x, int y) {
            this.letter = letter;
            this.digit = digit;
            this.plus = plus;
            this.x = x;
            this.y = y;
        }

        /** The card on the line from .. to - 1 (its byte 10 not among them), or null when it is none. */
        static Card read(byte[] bytes, int from, int to) {
            if (to - from < 3 || bytes[from + 1] != ' ') {
                return null;
            }
            int letter = bytes[from];
            switch (letter) {
                case 'D':
                    return readTime(bytes, from + 2, to);
                case 'F':
                    return readFile(bytes, from + 2, to);
                case 'M':
                case 'R':
                case 'Z':
                    return readOneName(letter, bytes, from + 2, to);
                case 'P':
                    return to - from == 2 + NAME_LETTERS
                            ? readOneName(letter, bytes, from + 2, to) : readTwoParents(bytes, from + 2, to);
                case 'T':
                    return readTag(bytes, from + 2, to);
                default:
                    return null;
            }
        }

        private static Card readTime(byte[] bytes, int from, int to) {
            int digits = to - from;
            if (digits < 1 || digits > 4 || digits > 1 && bytes[from] == '0') {
                return null;
            }
            int time = 0;
            for (int i = from; i < to; i++) {
                if (!isDigit(bytes[i] - '0')) {
                    return null;
                }
                time = 10 * time + bytes[i] - '0';
            }
            return new Card('D', NONE, false, time, NONE);
        }

        private static Card readFile(byte[] bytes, int from, int to) {
            if (to - from != 2 + NAME_LETTERS || bytes[from + 1] != ' ') {
                return null;
            }
            int digit = bytes[from] - '0';
            int name = readName(bytes, from + 2);
            return isDigit(digit) && name != NONE ? new Card('F', digit, false, name, NONE) : null;
        }

        private static Card readOneName(int letter, byte[] bytes, int from, int to) {
            if (to - from != NAME_LETTERS) {
                return null;
            }
            int name = readName(bytes, from);
            return name != NONE ? new Card(letter, NONE, false, name, NONE) : null;
        }

        private static Card readTwoParents(byte[] bytes, int from, int to) {
            if (to - from != 2 * NAME_LETTERS + 1 || bytes[from + NAME_LETTERS] != ' ') {
                return null;
            }
            int parent = readName(bytes, from);
            int second = readName(bytes, from + NAME_LETTERS + 1);
            if (parent == NONE || second == NONE || parent == second) {
                return null;
            }
            return new Card('P', NONE, false, parent, second);
        }

        private static Card readTag(byte[] bytes, int from, int to) {
            if (to - from < 4 || bytes[from + 2] != ' ') {
                return null;
            }
            boolean plus = bytes[from] == '+';
            int digit = bytes[from + 1] - '0';
            if (!plus && bytes[from] != '-' || !isDigit(digit)) {
                return null;
            }
            if (to - from == 4 && bytes[from + 3] == '*') {
                return new Card('T', digit, plus, NONE, NONE);
            }
            if (to - from != 3 + NAME_LETTERS) {
                return null;
            }
            int name = readName(bytes, from + 3);
            return name != NONE ? new Card('T', digit, plus, name, NONE) : null;
        }

        /** The name whose six letters begin at a place, which the caller has seen to lie inside the line. */
        private static int readName(byte[] bytes, int from) {
            int name = 0;
            for (int i = from; i < from + NAME_LETTERS; i++) {
                int value = bytes[i] - 'a';
                if (value < 0 || value > 15) {
                    return NONE;
                }
                name = 16 * name + value;
            }
            return name;
        }

        /** Whether this card may stand right behind another one in a manifest, control or cluster. */
        boolean mayFollow(Card before) {
            if (letter != before.letter) {
                return letter > before.letter;
            }
            switch (letter) {
                case 'F':
                case 'T':
                    return digit > before.digit;
                case 'M':
                    return x > before.x;
                default:
                    // None of the three has D, P, R or Z twice.
                    return false;
            }
        }

        boolean namesWhatIsNeeded() {
            return letter == 'F' || letter == 'M' || letter == 'P';
        }
    }

    /** An artifact never changes, so both repositories may hold the same object. */
    private static final class Artifact {
        private final byte[] bytes;
        private final int name;
        private final int sort;
        /** Its cards by their lines, none if it is plain. */
        private final Card[] cards;
        private final int time;
        private final int filesDigest;

        private Artifact(byte[] bytes, int sort, Card[] cards) {
            this.bytes = bytes;
            this.name = digestAfter(EMPTY_DIGEST, bytes, bytes.length);
            this.sort = sort;
            this.cards = cards;
            this.time = numberOf('D', cards);
            this.filesDigest = numberOf('R', cards);
        }

        static Artifact of(Row row) {
            byte[] bytes = Arrays.copyOf(row.bytes, row.length);
            Card[] cards = readLines(bytes);
            int sort = isWellFormed(bytes, cards) ? sortOf(cards) : PLAIN;
            return new Artifact(bytes, sort, sort == PLAIN ? new Card[0] : cards);
        }

        /** A card for each line; none at all when a line is no card or bytes stand behind the last line. */
        private static Card[] readLines(byte[] bytes) {
            if (bytes.length == 0 || bytes[bytes.length - 1] != LINE_END) {
                return new Card[0];
            }
            Card[] cards = new Card[countLines(bytes)];
            int start = 0;
            int line = 0;
            for (int i = 0; i < bytes.length && line < cards.length; i++) {
                if (bytes[i] == LINE_END) {
                    cards[line] = Card.read(bytes, start, i);
                    if (cards[line] == null) {
                        return new Card[0];
                    }
                    line++;
                    start = i + 1;
                }
            }
            return cards;
        }

        private static int countLines(byte[] bytes) {
            int lines = 0;
            for (int i = 0; i < bytes.length; i++) {
                if (bytes[i] == LINE_END) {
                    lines++;
                }
            }
            return lines;
        }

        /** What manifests, controls and clusters have in common: the order of the cards and the Z card. */
        private static boolean isWellFormed(byte[] bytes, Card[] cards) {
            if (cards.length == 0) {
                return false;
            }
            for (int i = 1; i < cards.length; i++) {
                if (!cards[i].mayFollow(cards[i - 1])) {
                    return false;
                }
            }
            Card last = cards[cards.length - 1];
            int zLineLength = 2 + NAME_LETTERS + 1;
            return last.letter == 'Z' && last.x == digestAfter(EMPTY_DIGEST, bytes, bytes.length - zLineLength);
        }

        private static int sortOf(Card[] cards) {
            int d = countOf('D', cards);
            int m = countOf('M', cards);
            int r = countOf('R', cards);
            int t = countOf('T', cards);
            int starred = countStarred(cards);
            if (d == 1 && r == 1 && m == 0 && starred == t) {
                return MANIFEST;
            }
            // The one card more is the Z card.
            if (d == 1 && t > 0 && starred == 0 && cards.length == t + 2) {
                return CONTROL;
            }
            return m > 0 && cards.length == m + 1 ? CLUSTER : PLAIN;
        }

        private static int countOf(int letter, Card[] cards) {
            int count = 0;
            for (int i = 0; i < cards.length; i++) {
                if (cards[i].letter == letter) {
                    count++;
                }
            }
            return count;
        }

        private static int countStarred(Card[] cards) {
            int count = 0;
            for (int i = 0; i < cards.length; i++) {
                if (cards[i].letter == 'T' && cards[i].x == NONE) {
                    count++;
                }
            }
            return count;
        }

        private static int numberOf(int letter, Card[] cards) {
            for (int i = 0; i < cards.length; i++) {
                if (cards[i].letter == letter) {
                    return cards[i].x;
                }
            }
            return NONE;
        }

        boolean namesFile(int file) {
            for (int i = 0; i < cards.length; i++) {
                if (cards[i].letter == 'F' && cards[i].x == file) {
                    return true;
                }
            }
            return false;
        }

        boolean namesParent(int parent) {
            for (int i = 0; i < cards.length; i++) {
                // A missing second parent is NONE too, so NONE must not be looked for.
                if (cards[i].letter == 'P' && parent != NONE) {
                    return cards[i].x == parent || cards[i].y == parent;
                }
            }
            return false;
        }

        /** Its T card that counts for a name and a digit, or null. */
        Card tagCardFor(int target, int digit) {
            for (int i = 0; i < cards.length; i++) {
                if (cards[i].letter == 'T' && cards[i].digit == digit) {
                    int tagged = sort == MANIFEST ? name : cards[i].x;
                    return tagged == target ? cards[i] : null;
                }
            }
            return null;
        }

        boolean isEarlierThan(Artifact than) {
            return time != than.time ? time < than.time : name < than.name;
        }
    }

    /** Different names by growing number. */
    private static final class NameSet {
        private int[] names;
        private int size;

        NameSet() {
            // Few sets ever hold more; those that do grow, which keeps a new object small.
            names = new int[16];
            size = 0;
        }

        void clear() {
            size = 0;
        }

        boolean contains(int name) {
            int place = placeOf(name);
            return place < size && names[place] == name;
        }

        void add(int name) {
            int place = placeOf(name);
            if (place < size && names[place] == name) {
                return;
            }
            if (size == names.length) {
                names = Arrays.copyOf(names, 2 * size);
            }
            System.arraycopy(names, place, names, place + 1, size - place);
            names[place] = name;
            size++;
        }

        void remove(int name) {
            int place = placeOf(name);
            if (place < size && names[place] == name) {
                System.arraycopy(names, place + 1, names, place, size - place - 1);
                size--;
            }
        }

        void copyFrom(NameSet from) {
            if (names.length < from.size) {
                names = new int[from.names.length];
            }
            System.arraycopy(from.names, 0, names, 0, from.size);
            size = from.size;
        }

        /** How many names are less. 32 artifacts with at most 25 names each, and 32 told, are fewer than 1024. */
        private int placeOf(int name) {
            int place = 0;
            for (int stride = 512; stride > 0; stride /= 2) {
                if (place + stride <= size && names[place + stride - 1] < name) {
                    place += stride;
                }
            }
            return place;
        }
    }

    /** The check-ins of a repository by growing time, those of one time by growing name. */
    private static final class History {
        private final Artifact[] checkedIn;
        private int count;

        History() {
            checkedIn = new Artifact[MOST_HELD];
            count = 0;
        }

        void clear() {
            count = 0;
        }

        void add(Artifact manifest) {
            if (count >= MOST_HELD) {
                return;
            }
            int place = count;
            while (place > 0 && manifest.isEarlierThan(checkedIn[place - 1])) {
                checkedIn[place] = checkedIn[place - 1];
                place--;
            }
            checkedIn[place] = manifest;
            count++;
        }

        int nameAt(int k) {
            return k < 0 || k >= count ? NONE : checkedIn[k].name;
        }

        int countChildren(int parent) {
            int found = 0;
            for (int i = 0; i < count; i++) {
                if (checkedIn[i].namesParent(parent)) {
                    found++;
                }
            }
            return found;
        }

        int countLeaves() {
            int found = 0;
            for (int i = 0; i < count; i++) {
                if (countChildren(checkedIn[i].name) == 0) {
                    found++;
                }
            }
            return found;
        }
    }

    /** A repository. */
    private static final class Bag {
        /** By growing names. */
        private final Artifact[] artifacts;
        private int count;
        private final History history;
        private final NameSet missing;
        private final NameSet clustered;
        /** What the other repository asked for in its last message. */
        private final NameSet asked;

        Bag() {
            artifacts = new Artifact[MOST_HELD];
            count = 0;
            history = new History();
            missing = new NameSet();
            clustered = new NameSet();
            asked = new NameSet();
        }

        boolean isFull() {
            return count >= MOST_HELD;
        }

        boolean holds(int name) {
            return find(name) != null;
        }

        Artifact find(int name) {
            for (int i = 0; i < count; i++) {
                if (artifacts[i].name == name) {
                    return artifacts[i];
                }
            }
            return null;
        }

        void take(Artifact artifact) {
            if (isFull() || holds(artifact.name)) {
                return;
            }
            insert(artifact);
            missing.remove(artifact.name);
            noteNamesOf(artifact);
            // Only these can have become check-ins by it, and none of them was one before.
            for (int i = 0; i < count; i++) {
                if (artifacts[i] == artifact || artifacts[i].namesFile(artifact.name)) {
                    noteIfCheckIn(artifacts[i]);
                }
            }
        }

        private void insert(Artifact artifact) {
            int place = count;
            while (place > 0 && artifacts[place - 1].name > artifact.name) {
                artifacts[place] = artifacts[place - 1];
                place--;
            }
            artifacts[place] = artifact;
            count++;
        }

        void deriveAnew() {
            history.clear();
            missing.clear();
            clustered.clear();
            for (int i = 0; i < count; i++) {
                noteNamesOf(artifacts[i]);
                noteIfCheckIn(artifacts[i]);
            }
        }

        private void noteNamesOf(Artifact artifact) {
            for (int i = 0; i < artifact.cards.length; i++) {
                Card card = artifact.cards[i];
                if (card.namesWhatIsNeeded()) {
                    want(card.x);
                    want(card.y);
                }
                if (card.letter == 'M') {
                    clustered.add(card.x);
                }
            }
        }

        private void want(int name) {
            if (name != NONE && !holds(name)) {
                missing.add(name);
            }
        }

        private void noteIfCheckIn(Artifact artifact) {
            if (artifact.sort != MANIFEST) {
                return;
            }
            int digest = EMPTY_DIGEST;
            for (int i = 0; i < artifact.cards.length && digest != NONE; i++) {
                digest = digestWithFile(digest, artifact.cards[i]);
            }
            if (digest != NONE && digest == artifact.filesDigest) {
                history.add(artifact);
            }
        }

        /** The digest with the bytes of the file that an F card names, NONE if that is not held; else as it was. */
        int digestWithFile(int digest, Card card) {
            if (card == null || card.letter != 'F') {
                return digest;
            }
            Artifact file = find(card.x);
            return file == null ? NONE : digestAfter(digest, file.bytes, file.bytes.length);
        }

        private boolean isLoose(Artifact artifact) {
            return !clustered.contains(artifact.name);
        }

        int countLoose() {
            int found = 0;
            for (int i = 0; i < count; i++) {
                if (isLoose(artifacts[i])) {
                    found++;
                }
            }
            return found;
        }

        int tagOf(int target, int digit) {
            Card latest = null;
            int latestTime = NONE;
            for (int i = 0; i < count; i++) {
                Card card = artifacts[i].tagCardFor(target, digit);
                // Names grow along the row: of equal times the later place has the greater name.
                if (card != null && artifacts[i].time >= latestTime) {
                    latest = card;
                    latestTime = artifacts[i].time;
                }
            }
            if (latest == null) {
                return NONE;
            }
            return latest.plus ? 1 : 0;
        }

        void gatherCluster(Row text) {
            if (isFull() || countLoose() <= MOST_LEFT_LOOSE) {
                return;
            }
            text.clear();
            int gathered = 0;
            for (int i = 0; i < count && gathered < MOST_IN_NEW_CLUSTER; i++) {
                if (isLoose(artifacts[i])) {
                    text.addNameCard('M', artifacts[i].name);
                    gathered++;
                }
            }
            text.addNameCard('Z', text.digest());
            if (!holds(text.digest())) {
                take(Artifact.of(text));
            }
        }

        /** Sends one message, which the receiver takes; answers how many artifacts it had. */
        int sendTo(Bag receiver, int budget) {
            int left = budget;
            int sent = 0;
            for (int i = 0; i < count; i++) {
                Artifact artifact = artifacts[i];
                if (asked.contains(artifact.name) && artifact.bytes.length <= left) {
                    left -= artifact.bytes.length;
                    sent++;
                    receiver.take(artifact);
                }
            }
            for (int i = 0; i < count; i++) {
                if (isLoose(artifacts[i])) {
                    receiver.want(artifacts[i].name);
                }
            }
            receiver.asked.copyFrom(missing);
            return sent;
        }
    }
}
