import java.util.ArrayDeque;
import java.util.ArrayList;
import java.util.Arrays;
import java.util.Comparator;
import java.util.Deque;
import java.util.List;
import java.util.Optional;
import java.util.TreeMap;
import java.util.stream.IntStream;

/** The document once more, as slow and as literal as can be: ModelTest holds the class against it. */
final class Model {
    static final int BAD = -1, STATE = -2, FULL = -3, NONE = -9;
    private static final int[] LOWEST = {22, 16, 10, 4};
    private static final int[][] SETTING_RANGE = {{1, 15}, {1, 50}, {0, 10}, {1, 6}};

    private static final class Voice {
        int strength;
        int height;
        TreeMap<Integer, Boolean> tests = new TreeMap<>();
        int part = NONE;
        boolean present = true;
        List<Integer> solos = new ArrayList<>();
        int standIns;

        Voice copy() {
            Voice v = new Voice();
            v.strength = strength;
            v.height = height;
            v.tests = new TreeMap<>(tests);
            v.part = part;
            v.present = present;
            v.solos = new ArrayList<>(solos);
            v.standIns = standIns;
            return v;
        }

        int latest() {
            return solos.isEmpty() ? NONE : solos.get(solos.size() - 1);
        }

        /** Lowest and highest note, or null. */
        int[] range() {
            for (int length = 41; length >= 1; length--) {
                for (int from = 0; from + length <= 41; from++) {
                    if (IntStream.range(from, from + length).allMatch(n -> tests.getOrDefault(n, false))) {
                        return new int[] {from, from + length - 1};
                    }
                }
            }
            return null;
        }

        int overlap(int part) {
            int[] range = range();
            if (range == null) {
                return 0;
            }
            return (int) IntStream.rangeClosed(LOWEST[part], LOWEST[part] + 14)
                    .filter(n -> n >= range[0] && n <= range[1]).count();
        }
    }

    private static final class Book {
        List<Voice> voices = new ArrayList<>();
        int[] settings = {12, 5, 1, 4};
        List<int[]> rehearsals = new ArrayList<>();
        int[] weak = new int[4];
        int standIns;

        Book copy() {
            Book b = new Book();
            for (Voice v : voices) {
                b.voices.add(v.copy());
            }
            b.settings = settings.clone();
            for (int[] r : rehearsals) {
                b.rehearsals.add(r.clone());
            }
            b.weak = weak.clone();
            b.standIns = standIns;
            return b;
        }
    }

    private Book book = new Book();
    private final Deque<Book> history = new ArrayDeque<>();
    private final Book[] images = new Book[2];
    private String text = "";
    private int faultKind = NONE;
    private int faultPlace = NONE;

    private void change() {
        history.addLast(book.copy());
        if (history.size() > 8) {
            history.removeFirst();
        }
    }

    private boolean noSinger(int singer) {
        return singer < 0 || singer >= book.voices.size();
    }

    private static boolean noPart(int part) {
        return part < 0 || part > 3;
    }

    private boolean fits(Voice v, int part) {
        return v.overlap(part) >= book.settings[0];
    }

    int add(int strength, int height) {
        if (strength < 1 || strength > 9 || height < 100 || height > 220) {
            return BAD;
        }
        if (book.voices.size() == 10) {
            return FULL;
        }
        change();
        Voice v = new Voice();
        v.strength = strength;
        v.height = height;
        book.voices.add(v);
        return book.voices.size() - 1;
    }

    int remove(int singer) {
        if (noSinger(singer)) {
            return BAD;
        }
        change();
        book.voices.remove(singer);
        return book.voices.size();
    }

    int set(int setting, int value) {
        if (setting < 0 || setting > 3 || value < SETTING_RANGE[setting][0] || value > SETTING_RANGE[setting][1]) {
            return BAD;
        }
        change();
        int before = book.settings[setting];
        book.settings[setting] = value;
        return before;
    }

    /** A word that was read: notes (or a singer), and whether they can be sung. */
    private record Word(int from, int to, boolean can) {
    }

    /** The words of the text, or null if it has a fault. */
    private List<Word> words(boolean tests, int limit) {
        List<Word> words = new ArrayList<>();
        int at = 0;
        while (true) {
            while (at < text.length() && text.charAt(at) == ' ') {
                at++;
            }
            if (at == text.length()) {
                return words;
            }
            int[] end = {at};
            Integer from = number(end, 0, limit);
            if (from == null) {
                return null;
            }
            int to = from;
            at = end[0];
            if (tests && at < text.length() && text.charAt(at) == '-') {
                end[0] = at + 1;
                Integer second = number(end, from, limit);
                if (second == null) {
                    return null;
                }
                to = second;
                at = end[0];
            }
            boolean can = true;
            if (tests && at < text.length() && text.charAt(at) == '!') {
                can = false;
                at++;
            }
            if (at < text.length() && text.charAt(at) != ' ') {
                return faulty(1, at);
            }
            words.add(new Word(from, to, can));
        }
    }

    private Integer number(int[] at, int least, int most) {
        int begin = at[0];
        int end = begin;
        while (end < text.length() && Character.isDigit(text.charAt(end))) {
            end++;
        }
        if (end == begin) {
            faulty(begin == text.length() ? 3 : 1, begin);
            return null;
        }
        if (end > begin + 2) {
            faulty(1, begin + 2);
            return null;
        }
        int value = Integer.parseInt(text.substring(begin, end));
        if (value < least || value > most) {
            faulty(2, begin);
            return null;
        }
        at[0] = end;
        return value;
    }

    private List<Word> faulty(int kind, int place) {
        faultKind = kind;
        faultPlace = place;
        return null;
    }

    int test(int singer) {
        if (noSinger(singer)) {
            return BAD;
        }
        List<Word> words = words(true, 40);
        if (words == null) {
            return STATE;
        }
        change();
        Voice v = book.voices.get(singer);
        for (Word word : words) {
            for (int n = word.from; n <= word.to; n++) {
                v.tests.put(n, word.can);
            }
        }
        int[] range = v.range();
        return range == null ? 0 : range[1] - range[0] + 1;
    }

    int place(int singer, int part) {
        if (noSinger(singer) || noPart(part) && part != NONE) {
            return BAD;
        }
        Voice v = book.voices.get(singer);
        if (part != NONE && !fits(v, part)) {
            return STATE;
        }
        change();
        int before = v.part;
        v.part = part;
        return before;
    }

    /** The best placing is the first one of all in their order that no later one surpasses. */
    private final class Search {
        final List<Voice> voices;
        final int[] sum = new int[4];
        final int[] parts;
        final boolean[][] fits;
        int least = -1;
        int greatest;
        int[] best;

        Search(List<Voice> voices) {
            this.voices = voices;
            parts = new int[voices.size()];
            fits = new boolean[voices.size()][4];
            for (int i = 0; i < voices.size(); i++) {
                for (int p = 0; p < 4; p++) {
                    fits[i][p] = fits(voices.get(i), p);
                }
            }
            from(0);
        }

        void from(int i) {
            if (i == voices.size()) {
                look();
                return;
            }
            boolean any = false;
            for (int p = 0; p < 4; p++) {
                if (fits[i][p]) {
                    any = true;
                    parts[i] = p;
                    sum[p] += voices.get(i).strength;
                    from(i + 1);
                    sum[p] -= voices.get(i).strength;
                }
            }
            if (!any) {
                parts[i] = NONE;
                from(i + 1);
            }
        }

        void look() {
            int low = Math.min(Math.min(sum[0], sum[1]), Math.min(sum[2], sum[3]));
            int high = Math.max(Math.max(sum[0], sum[1]), Math.max(sum[2], sum[3]));
            if (low > least || low == least && high < greatest) {
                least = low;
                greatest = high;
                best = parts.clone();
            }
        }
    }

    int placeAll() {
        change();
        Search search = new Search(book.voices);
        for (int i = 0; i < book.voices.size(); i++) {
            book.voices.get(i).part = search.best[i];
        }
        return search.least;
    }

    int attendance() {
        List<Word> words = words(false, book.voices.size() - 1);
        if (words == null) {
            return STATE;
        }
        change();
        for (Voice v : book.voices) {
            v.present = true;
        }
        for (Word word : words) {
            book.voices.get(word.from).present = false;
        }
        return (int) book.voices.stream().filter(v -> !v.present).count();
    }

    private int strength(int part, boolean presentOnly) {
        return book.voices.stream().filter(v -> v.part == part && (v.present || !presentOnly))
                .mapToInt(v -> v.strength).sum();
    }

    /** Who would stand in where; behind them the strengths of the parts. */
    private int[] standIns() {
        int n = book.voices.size();
        int[] plan = new int[n + 4];
        Arrays.fill(plan, 0, n, NONE);
        for (int p = 0; p < 4; p++) {
            plan[n + p] = strength(p, true);
        }
        int cover = book.settings[1];
        for (int p = 0; p < 4; p++) {
            for (int i = 0; i < n; i++) {
                if (plan[n + p] >= cover) {
                    break;
                }
                Voice v = book.voices.get(i);
                if (!v.present || !fits(v, p) || v.part == NONE || v.part == p || plan[i] != NONE) {
                    continue;
                }
                if (plan[n + v.part] - v.strength < cover) {
                    continue;
                }
                plan[n + v.part] -= v.strength;
                plan[n + p] += v.strength;
                plan[i] = p;
            }
        }
        return plan;
    }

    private boolean paused(Voice v) {
        return !v.solos.isEmpty() && book.rehearsals.size() - v.latest() <= book.settings[2];
    }

    private int soloist(int part, int[] plan) {
        Optional<Integer> first = IntStream.range(0, book.voices.size()).boxed().filter(i -> {
            Voice v = book.voices.get(i);
            return v.part == part && v.present && plan[i] == NONE && !paused(v);
        }).min(Comparator.<Integer>comparingInt(i -> book.voices.get(i).solos.size())
                .thenComparingInt(i -> book.voices.get(i).latest()).thenComparingInt(i -> i));
        return first.orElse(NONE);
    }

    int hold() {
        int n = book.voices.size();
        if (n == 0) {
            return STATE;
        }
        if (book.rehearsals.size() == 40) {
            return FULL;
        }
        change();
        int[] plan = standIns();
        int[] solos = new int[4];
        for (int p = 0; p < 4; p++) {
            solos[p] = soloist(p, plan);
            if (plan[n + p] < book.settings[1]) {
                book.weak[p]++;
            }
        }
        int given = 0;
        for (int s : solos) {
            if (s != NONE) {
                book.voices.get(s).solos.add(book.rehearsals.size());
                given++;
            }
        }
        for (int i = 0; i < n; i++) {
            if (plan[i] != NONE) {
                book.voices.get(i).standIns++;
                book.standIns++;
            }
            book.voices.get(i).present = true;
        }
        book.rehearsals.add(solos);
        return given;
    }

    int undo() {
        if (history.isEmpty()) {
            return STATE;
        }
        book = history.removeLast();
        return history.size();
    }

    int write(int code) {
        if (code < 32 || code > 126) {
            return BAD;
        }
        if (text.length() == 60) {
            return FULL;
        }
        text += (char) code;
        return text.length();
    }

    int wipe() {
        int length = text.length();
        text = "";
        return length;
    }

    int fault(int what) {
        return what == 0 ? faultKind : what == 1 ? faultPlace : BAD;
    }

    int told(int what) {
        return switch (what) {
            case 0 -> book.voices.size();
            case 1 -> (int) book.voices.stream().filter(v -> v.part != NONE).count();
            case 2 -> book.rehearsals.size();
            case 3 -> (int) book.voices.stream().filter(v -> !v.present).count();
            case 4 -> IntStream.range(0, 4).filter(p -> strength(p, true) >= book.settings[1]).map(p -> 1 << p).sum();
            case 5 -> book.rehearsals.stream().mapToInt(r -> (int) Arrays.stream(r).filter(s -> s != NONE).count()).sum();
            case 6 -> book.standIns;
            case 7 -> text.length();
            case 8 -> history.size();
            default -> BAD;
        };
    }

    int setting(int setting) {
        return setting < 0 || setting > 3 ? BAD : book.settings[setting];
    }

    int singer(int singer, int what) {
        if (noSinger(singer) || what < 0 || what > 9) {
            return BAD;
        }
        Voice v = book.voices.get(singer);
        int[] range = v.range();
        return switch (what) {
            case 0 -> v.strength;
            case 1 -> v.height;
            case 2 -> range == null ? NONE : range[0];
            case 3 -> range == null ? NONE : range[1];
            case 4 -> IntStream.range(0, 4).filter(p -> fits(v, p)).map(p -> 1 << p).sum();
            case 5 -> v.part;
            case 6 -> v.present ? 1 : 0;
            case 7 -> v.solos.size();
            case 8 -> v.latest();
            default -> v.standIns;
        };
    }

    int note(int singer, int note) {
        if (noSinger(singer) || note < 0 || note > 40) {
            return BAD;
        }
        Boolean known = book.voices.get(singer).tests.get(note);
        return known == null ? NONE : known ? 1 : 0;
    }

    int overlap(int singer, int part) {
        return noSinger(singer) || noPart(part) ? BAD : book.voices.get(singer).overlap(part);
    }

    private int members(int part) {
        return (int) book.voices.stream().filter(v -> v.part == part).count();
    }

    int part(int part, int what) {
        if (noPart(part) || what < 0 || what > 5) {
            return BAD;
        }
        return switch (what) {
            case 0 -> members(part);
            case 1 -> strength(part, false);
            case 2 -> strength(part, true);
            case 3 -> book.weak[part];
            case 4 -> rows(part).size();
            default -> soloist(part, standIns());
        };
    }

    /** The rows of a part, each the numbers of its singers from the first one on. */
    private List<List<Integer>> rows(int part) {
        List<Integer> seated = IntStream.range(0, book.voices.size()).filter(i -> book.voices.get(i).part == part)
                .boxed().sorted(Comparator.comparingInt(i -> book.voices.get(i).height)).toList();
        List<List<Integer>> rows = new ArrayList<>();
        for (int i : seated) {
            if (rows.isEmpty() || rows.get(rows.size() - 1).size() == book.settings[3]) {
                rows.add(new ArrayList<>());
            }
            rows.get(rows.size() - 1).add(i);
        }
        return rows;
    }

    int seat(int singer, int what) {
        if (noSinger(singer) || what < 0 || what > 1) {
            return BAD;
        }
        int[] seats = {0, 1, -1, 2, -2, 3};
        List<List<Integer>> all = new ArrayList<>();
        for (int p = 0; p < 4; p++) {
            all.addAll(rows(p));
        }
        for (int row = 0; row < all.size(); row++) {
            int at = all.get(row).indexOf(singer);
            if (at >= 0) {
                return what == 0 ? row : seats[at];
            }
        }
        return NONE;
    }

    int solo(int rehearsal, int part) {
        return rehearsal < 0 || rehearsal >= book.rehearsals.size() || noPart(part) ? BAD
                : book.rehearsals.get(rehearsal)[part];
    }

    float mean() {
        return (float) book.voices.stream().filter(v -> v.part != NONE).mapToInt(v -> v.strength).sum() / 4f;
    }

    int standIn(int singer) {
        return noSinger(singer) ? BAD : standIns()[singer];
    }

    int passedOver(int singer) {
        if (noSinger(singer)) {
            return BAD;
        }
        Voice v = book.voices.get(singer);
        int[] plan = standIns();
        boolean[] reasons = {
            v.part == NONE, !v.present, plan[singer] != NONE, paused(v), soloist(v.part, plan) != singer
        };
        for (int i = 0; i < reasons.length; i++) {
            if (reasons[i]) {
                return i + 1;
            }
        }
        return 0;
    }

    int without(int singer) {
        if (singer != -1 && noSinger(singer)) {
            return BAD;
        }
        List<Voice> others = new ArrayList<>(book.voices);
        if (singer != -1) {
            others.remove(singer);
        }
        return new Search(others).least;
    }

    int keep(int i) {
        if (i < 0 || i > 1) {
            return BAD;
        }
        images[i] = book.copy();
        return book.voices.size();
    }

    int back(int i) {
        if (i < 0 || i > 1) {
            return BAD;
        }
        if (images[i] == null) {
            return STATE;
        }
        change();
        book = images[i].copy();
        return book.voices.size();
    }
}
