import java.util.ArrayList;
import java.util.Comparator;
import java.util.List;
import java.util.TreeMap;
import java.util.TreeSet;
import java.util.regex.Matcher;
import java.util.regex.Pattern;

/** The document once more, as slow and plain as can be: each answer is worked out from the bytes alone. */
final class Model {
    private static final String NAME = "([a-p]{6})";
    private static final Pattern FILE = Pattern.compile("F ([0-9]) " + NAME);
    private static final Pattern PARENTS = Pattern.compile("P " + NAME + "(?: " + NAME + ")?");
    private static final Pattern TAG = Pattern.compile("T ([+-])([0-9]) (\\*|[a-p]{6})");
    private static final Pattern TIME = Pattern.compile("D (0|[1-9][0-9]{0,3})");
    private static final Pattern ONE_NAME = Pattern.compile("[MRZ] " + NAME);
    private static final Pattern MANIFEST = Pattern.compile("DF*P?RT*Z");
    private static final Pattern CONTROL = Pattern.compile("DT+Z");
    private static final Pattern CLUSTER = Pattern.compile("M+Z");

    private final List<TreeMap<Integer, String>> held = List.of(new TreeMap<>(), new TreeMap<>());
    private final List<TreeSet<Integer>> told = List.of(new TreeSet<>(), new TreeSet<>());
    /** What each repository asked for in its last message. */
    private final List<TreeSet<Integer>> askedBy = List.of(new TreeSet<>(), new TreeSet<>());
    private String draft = "";

    private static int number(String letters) {
        int number = 0;
        for (char letter : letters.toCharArray()) {
            number = 16 * number + letter - 'a';
        }
        return number;
    }

    private static boolean isCard(String line) {
        Matcher parents = PARENTS.matcher(line);
        if (parents.matches()) {
            return !parents.group(1).equals(parents.group(2));
        }
        return FILE.matcher(line).matches() || TAG.matcher(line).matches() || TIME.matcher(line).matches()
                || ONE_NAME.matcher(line).matches();
    }

    /** The lines without their ends; what stands behind the last end is left out. */
    private static List<String> lines(String text) {
        List<String> lines = new ArrayList<>();
        int start = 0;
        for (int end = text.indexOf('\n'); end >= 0; end = text.indexOf('\n', start)) {
            lines.add(text.substring(start, end));
            start = end + 1;
        }
        return lines;
    }

    private static boolean grows(List<String> lines, char letter, int from, int to) {
        String last = "";
        for (String line : lines) {
            if (line.charAt(0) == letter) {
                String key = line.substring(from, to);
                if (key.compareTo(last) <= 0) {
                    return false;
                }
                last = key;
            }
        }
        return true;
    }

    static int kindOf(String text) {
        if (!text.endsWith("\n")) {
            return 0;
        }
        List<String> lines = lines(text);
        StringBuilder letters = new StringBuilder();
        int stars = 0;
        int names = 0;
        for (String line : lines) {
            if (!isCard(line)) {
                return 0;
            }
            letters.append(line.charAt(0));
            stars += line.charAt(0) == 'T' && line.endsWith("*") ? 1 : 0;
            names += line.charAt(0) == 'T' && !line.endsWith("*") ? 1 : 0;
        }
        if (!grows(lines, 'F', 2, 3) || !grows(lines, 'T', 3, 4) || !grows(lines, 'M', 2, 8)) {
            return 0;
        }
        String last = lines.get(lines.size() - 1);
        String before = text.substring(0, text.length() - last.length() - 1);
        if (!last.equals("Z " + Texts.letters(Texts.digest(before)))) {
            return 0;
        }
        if (MANIFEST.matcher(letters).matches() && names == 0) {
            return 1;
        }
        if (CONTROL.matcher(letters).matches() && stars == 0) {
            return 2;
        }
        return CLUSTER.matcher(letters).matches() ? 3 : 0;
    }

    private static List<String> cards(String text, char letter) {
        List<String> cards = new ArrayList<>();
        for (String line : lines(text)) {
            if (!line.isEmpty() && line.charAt(0) == letter && isCard(line)) {
                cards.add(line);
            }
        }
        return cards;
    }

    private static TreeSet<Integer> namesIn(String text, String letters) {
        TreeSet<Integer> names = new TreeSet<>();
        for (char letter : letters.toCharArray()) {
            for (String card : cards(text, letter)) {
                String[] words = card.split(" ");
                for (int i = letter == 'F' ? 2 : 1; i < words.length; i++) {
                    names.add(number(words[i]));
                }
            }
        }
        return names;
    }

    private static int time(String text) {
        return Integer.parseInt(cards(text, 'D').get(0).substring(2));
    }

    private static boolean isNone(int repository) {
        return repository != 0 && repository != 1;
    }

    private int append(String text) {
        if (draft.length() + text.length() > 240) {
            return -1;
        }
        draft += text;
        return draft.length();
    }

    private static boolean isName(int number) {
        return number >= 0 && number < 16777216;
    }

    int card(int kind, int a, int b) {
        if (kind == 0 && a >= 0 && a < 10000) {
            return append("D " + a + "\n");
        }
        if (kind == 1 && a >= 0 && a < 10 && isName(b)) {
            return append(Texts.file(a, b));
        }
        if ((kind == 2 || kind == 4) && isName(a)) {
            return append(Texts.line(kind == 2 ? 'M' : 'R', a));
        }
        if (kind == 3 && isName(a) && b == -1) {
            return append(Texts.line('P', a));
        }
        if (kind == 3 && isName(a) && isName(b) && a != b) {
            return append("P " + Texts.letters(a) + " " + Texts.letters(b) + "\n");
        }
        if (kind == 5 && a >= -10 && a < 10 && (b == -1 || isName(b))) {
            String sign = a >= 0 ? "+" + a : "-" + (-1 - a);
            return append("T " + sign + " " + (b == -1 ? "*" : Texts.letters(b)) + "\n");
        }
        return kind == 6 ? append(Texts.line('Z', Texts.digest(draft))) : -1;
    }

    int raw(long bytes, int n) {
        if (n < 1 || n > 8) {
            return -1;
        }
        StringBuilder text = new StringBuilder();
        for (int i = 0; i < n; i++) {
            text.append((char) ((bytes >> 8 * i) & 255));
        }
        return append(text.toString());
    }

    int drop() {
        int length = draft.length();
        draft = "";
        return length;
    }

    private int digestOfFiles(int repository, String text) {
        StringBuilder all = new StringBuilder();
        for (String card : cards(text, 'F')) {
            String bytes = held.get(repository).get(number(card.substring(4)));
            if (bytes == null) {
                return -1;
            }
            all.append(bytes);
        }
        return Texts.digest(all.toString());
    }

    int files(int repository) {
        return isNone(repository) ? -1 : digestOfFiles(repository, draft);
    }

    private void hold(int repository, String text) {
        if (held.get(repository).size() < 32) {
            held.get(repository).putIfAbsent(Texts.digest(text), text);
        }
    }

    int put(int repository) {
        if (isNone(repository) || draft.isEmpty()) {
            return -1;
        }
        int name = Texts.digest(draft);
        if (!held.get(repository).containsKey(name) && held.get(repository).size() == 32) {
            return -1;
        }
        hold(repository, draft);
        draft = "";
        return name;
    }

    private TreeSet<Integer> looseNames(int repository) {
        TreeSet<Integer> names = new TreeSet<>(held.get(repository).keySet());
        for (String text : held.get(repository).values()) {
            if (kindOf(text) == 3) {
                names.removeAll(namesIn(text, "M"));
            }
        }
        return names;
    }

    private TreeSet<Integer> wantedNames(int repository) {
        TreeSet<Integer> names = new TreeSet<>(told.get(repository));
        for (String text : held.get(repository).values()) {
            if (kindOf(text) == 1 || kindOf(text) == 3) {
                names.addAll(namesIn(text, "FMP"));
            }
        }
        names.removeAll(held.get(repository).keySet());
        return names;
    }

    int round(int budget) {
        if (budget < 0 || budget > 10000) {
            return -1;
        }
        for (int r = 0; r < 2; r++) {
            TreeSet<Integer> loose = looseNames(r);
            if (loose.size() > 5) {
                StringBuilder body = new StringBuilder();
                loose.stream().limit(20).forEach(name -> body.append(Texts.line('M', name)));
                hold(r, Texts.sealed(body.toString()));
            }
        }
        return message(0, budget) + message(1, budget);
    }

    private int message(int from, int budget) {
        TreeSet<Integer> telling = looseNames(from);
        TreeSet<Integer> asking = wantedNames(from);
        List<String> sent = new ArrayList<>();
        int left = budget;
        for (int name : askedBy.get(1 - from)) {
            String text = held.get(from).get(name);
            if (text != null && text.length() <= left) {
                sent.add(text);
                left -= text.length();
            }
        }
        for (String text : sent) {
            hold(1 - from, text);
        }
        told.get(1 - from).addAll(telling);
        askedBy.get(from).clear();
        askedBy.get(from).addAll(asking);
        return sent.size();
    }

    int held(int repository) {
        return isNone(repository) ? -1 : held.get(repository).size();
    }

    private static int at(List<Integer> list, int k) {
        return k < 0 || k >= list.size() ? -1 : list.get(k);
    }

    int name(int repository, int k) {
        return isNone(repository) ? -1 : at(new ArrayList<>(held.get(repository).keySet()), k);
    }

    int octet(int repository, int name, int k) {
        String text = isNone(repository) ? null : held.get(repository).get(name);
        return text == null || k < 0 || k >= text.length() ? -1 : text.charAt(k);
    }

    int kind(int repository, int name) {
        String text = isNone(repository) ? null : held.get(repository).get(name);
        return text == null ? -1 : kindOf(text);
    }

    int wanted(int repository) {
        return isNone(repository) ? -1 : wantedNames(repository).size();
    }

    boolean wants(int repository, int name) {
        return !isNone(repository) && wantedNames(repository).contains(name);
    }

    private List<Integer> history(int repository) {
        TreeMap<Integer, String> bag = held.get(repository);
        List<Integer> names = new ArrayList<>();
        for (int name : bag.keySet()) {
            String text = bag.get(name);
            if (kindOf(text) == 1
                    && cards(text, 'R').get(0).equals("R " + lettersOrNone(digestOfFiles(repository, text)))) {
                names.add(name);
            }
        }
        names.sort(Comparator.comparingInt(name -> time(bag.get(name))));
        return names;
    }

    private static String lettersOrNone(int digest) {
        return digest == -1 ? "none" : Texts.letters(digest);
    }

    int checkIns(int repository) {
        return isNone(repository) ? -1 : history(repository).size();
    }

    int timeline(int repository, int k) {
        return isNone(repository) ? -1 : at(history(repository), k);
    }

    int children(int repository, int name) {
        if (isNone(repository)) {
            return -1;
        }
        int count = 0;
        for (int child : history(repository)) {
            count += namesIn(held.get(repository).get(child), "P").contains(name) ? 1 : 0;
        }
        return count;
    }

    int leaves(int repository) {
        if (isNone(repository)) {
            return -1;
        }
        int count = 0;
        for (int name : history(repository)) {
            count += children(repository, name) == 0 ? 1 : 0;
        }
        return count;
    }

    int tag(int repository, int name, int d) {
        if (isNone(repository) || d < 0 || d > 9) {
            return -1;
        }
        int answer = -1;
        long greatest = -1;
        for (int teller : held.get(repository).keySet()) {
            String text = held.get(repository).get(teller);
            int kind = kindOf(text);
            for (String card : cards(text, 'T')) {
                String word = card.substring(5);
                boolean counts = kind == 2 && word.equals(isName(name) ? Texts.letters(name) : "none")
                        || kind == 1 && teller == name;
                if (counts && card.charAt(3) == '0' + d && time(text) * 100000000L + teller > greatest) {
                    greatest = time(text) * 100000000L + teller;
                    answer = card.charAt(2) == '+' ? 1 : 0;
                }
            }
        }
        return answer;
    }

    int loose(int repository) {
        return isNone(repository) ? -1 : looseNames(repository).size();
    }

    int rebuild(int repository) {
        if (isNone(repository)) {
            return -1;
        }
        told.get(repository).clear();
        return history(repository).size();
    }
}
