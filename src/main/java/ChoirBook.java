/**
 * A choir book: singers whose ranges are found by tests, voices that are placed by blend,
 * rehearsals with absences and stand-ins, solos that rotate, and seats by height.
 *
 * <p>Every row is made in a constructor and used again, so that no later call makes an object.
 */
public final class ChoirBook {
    public static final int BAD = -1, STATE = -2, FULL = -3, NONE = -9;

    private static final int MOST_SINGERS = 10;
    private static final int PARTS = 4;
    private static final int NOTES = 41;
    private static final int NOTES_OF_A_PART = 15;
    private static final int MOST_REHEARSALS = 40;
    private static final int MOST_BYTES = 60;
    private static final int MOST_UNDONE = 8;
    private static final int IMAGES = 2;

    private static final int SETTINGS = 4;
    private static final int LEAST_OVERLAP = 0, LEAST_COVER = 1, PAUSE = 2, WIDTH = 3;
    private static final int[] SETTING_LEAST = {1, 1, 0, 1};
    private static final int[] SETTING_MOST = {15, 50, 10, 6};
    private static final int[] SETTING_FIRST = {12, 5, 1, 4};
    private static final int[] LOWEST_NOTE = {22, 16, 10, 4};

    private static final int NOBODY = -1;

    private final Choir choir;
    private final History history;
    private final Choir[] images;
    private final boolean[] kept;
    private final Text text;
    private final Reader reader;
    private final Rehearsal next;
    private final Placing placing;

    public ChoirBook() {
        choir = new Choir();
        history = new History();
        images = new Choir[IMAGES];
        for (int i = 0; i < IMAGES; i++) {
            images[i] = new Choir();
        }
        kept = new boolean[IMAGES];
        text = new Text();
        reader = new Reader();
        next = new Rehearsal();
        placing = new Placing();
    }

    // ---- changes

    public int add(int strength, int height) {
        if (strength < 1 || strength > 9 || height < 100 || height > 220) {
            return BAD;
        }
        if (choir.count >= MOST_SINGERS) {
            return FULL;
        }
        history.record(choir);
        choir.join(strength, height);
        return choir.count - 1;
    }

    public int remove(int singer) {
        if (!choir.has(singer)) {
            return BAD;
        }
        history.record(choir);
        choir.dismiss(singer);
        return choir.count;
    }

    public int set(int setting, int value) {
        if (!isSetting(setting) || value < SETTING_LEAST[setting] || value > SETTING_MOST[setting]) {
            return BAD;
        }
        history.record(choir);
        int previous = choir.settings[setting];
        choir.settings[setting] = value;
        return previous;
    }

    public int test(int singer) {
        if (!choir.has(singer)) {
            return BAD;
        }
        Singer tested = choir.singers[singer];
        if (!reader.readTests(text, tested)) {
            return STATE;
        }
        history.record(choir);
        tested.learn(reader.told, reader.sung);
        return tested.range;
    }

    public int place(int singer, int part) {
        if (!choir.has(singer) || !isPart(part) && part != NONE) {
            return BAD;
        }
        if (part != NONE && !choir.fits(singer, part)) {
            return STATE;
        }
        history.record(choir);
        int previous = choir.singers[singer].part;
        choir.singers[singer].part = part;
        return previous;
    }

    public int placeAll() {
        history.record(choir);
        placing.weigh(choir, NOBODY);
        placing.choose(choir);
        return placing.least;
    }

    public int attendance() {
        if (!reader.readAbsent(text, choir.count)) {
            return STATE;
        }
        history.record(choir);
        for (int i = 0; i < choir.count; i++) {
            choir.singers[i].present = !contains(reader.told, i);
        }
        return choir.absent();
    }

    public int hold() {
        if (choir.count == 0) {
            return STATE;
        }
        if (choir.held >= MOST_REHEARSALS) {
            return FULL;
        }
        history.record(choir);
        next.plan(choir);
        return next.happen(choir);
    }

    public int undo() {
        if (history.size == 0) {
            return STATE;
        }
        history.restore(choir);
        return history.size;
    }

    // ---- the text

    public int write(int code) {
        if (code < 32 || code > 126) {
            return BAD;
        }
        if (text.length >= MOST_BYTES) {
            return FULL;
        }
        text.codes[text.length] = code;
        text.length++;
        return text.length;
    }

    public int wipe() {
        int length = text.length;
        text.length = 0;
        return length;
    }

    public int fault(int what) {
        switch (what) {
            case 0: return reader.faultKind;
            case 1: return reader.faultPlace;
            default: return BAD;
        }
    }

    // ---- what is told

    public int told(int what) {
        switch (what) {
            case 0: return choir.count;
            case 1: return choir.placed();
            case 2: return choir.held;
            case 3: return choir.absent();
            case 4: return choir.coveredParts();
            case 5: return choir.solos;
            case 6: return choir.standIns;
            case 7: return text.length;
            case 8: return history.size;
            default: return BAD;
        }
    }

    public int setting(int setting) {
        return isSetting(setting) ? choir.settings[setting] : BAD;
    }

    public int singer(int singer, int what) {
        if (!choir.has(singer)) {
            return BAD;
        }
        Singer asked = choir.singers[singer];
        switch (what) {
            case 0: return asked.strength;
            case 1: return asked.height;
            case 2: return asked.range == 0 ? NONE : asked.lowest;
            case 3: return asked.range == 0 ? NONE : asked.lowest + asked.range - 1;
            case 4: return choir.fittingParts(singer);
            case 5: return asked.part;
            case 6: return asked.present ? 1 : 0;
            case 7: return asked.solos;
            case 8: return asked.latestSolo;
            case 9: return asked.standIns;
            default: return BAD;
        }
    }

    public int note(int singer, int note) {
        if (!choir.has(singer) || note < 0 || note >= NOTES) {
            return BAD;
        }
        Singer asked = choir.singers[singer];
        if (!contains(asked.tested, note)) {
            return NONE;
        }
        return contains(asked.sung, note) ? 1 : 0;
    }

    public int overlap(int singer, int part) {
        if (!choir.has(singer) || !isPart(part)) {
            return BAD;
        }
        return choir.singers[singer].notesIn(part);
    }

    public int part(int part, int what) {
        if (!isPart(part)) {
            return BAD;
        }
        switch (what) {
            case 0: return choir.members(part);
            case 1: return choir.strength(part);
            case 2: return choir.strengthPresent(part);
            case 3: return choir.weak[part];
            case 4: return choir.rows(part);
            case 5:
                next.plan(choir);
                return next.soloist[part];
            default: return BAD;
        }
    }

    public int seat(int singer, int what) {
        if (!choir.has(singer) || what < 0 || what > 1) {
            return BAD;
        }
        int part = choir.singers[singer].part;
        if (!isPart(part)) {
            return NONE;
        }
        int before = choir.seatedBefore(singer);
        if (what == 0) {
            return choir.rowsBefore(part) + before / choir.width();
        }
        int inRow = before % choir.width();
        return inRow % 2 == 1 ? (inRow + 1) / 2 : -(inRow / 2);
    }

    public int solo(int rehearsal, int part) {
        if (rehearsal < 0 || rehearsal >= choir.held || !isPart(part)) {
            return BAD;
        }
        return choir.soloists[rehearsal * PARTS + part];
    }

    public float mean() {
        int sum = 0;
        for (int part = 0; part < PARTS; part++) {
            sum += choir.strength(part);
        }
        return (float) sum / (float) PARTS;
    }

    // ---- what would be

    public int standIn(int singer) {
        if (!choir.has(singer)) {
            return BAD;
        }
        next.plan(choir);
        return next.standsIn[singer];
    }

    public int passedOver(int singer) {
        if (!choir.has(singer)) {
            return BAD;
        }
        Singer asked = choir.singers[singer];
        if (!isPart(asked.part)) {
            return 1;
        }
        if (!asked.present) {
            return 2;
        }
        next.plan(choir);
        if (next.standsIn[singer] != NONE) {
            return 3;
        }
        if (!choir.rested(asked)) {
            return 4;
        }
        return next.soloist[asked.part] == singer ? 0 : 5;
    }

    public int without(int singer) {
        if (singer != NOBODY && !choir.has(singer)) {
            return BAD;
        }
        placing.weigh(choir, singer);
        return placing.least;
    }

    // ---- images

    public int keep(int i) {
        if (!isImage(i)) {
            return BAD;
        }
        images[i].copyFrom(choir);
        kept[i] = true;
        return choir.count;
    }

    public int back(int i) {
        if (!isImage(i)) {
            return BAD;
        }
        if (!kept[i]) {
            return STATE;
        }
        history.record(choir);
        choir.copyFrom(images[i]);
        return choir.count;
    }

    private static boolean isSetting(int setting) {
        return setting >= 0 && setting < SETTINGS;
    }

    private static boolean isPart(int part) {
        return part >= 0 && part < PARTS;
    }

    private static boolean isImage(int i) {
        return i >= 0 && i < IMAGES;
    }

    /** Sets of notes, of singers and of parts are kept as bits, so that no call makes an object. */
    private static boolean contains(long set, int element) {
        return (set >>> element & 1L) != 0;
    }

    private static final class Singer {
        int strength;
        int height;
        long tested;
        long sung;
        int lowest;
        int range;
        int part;
        boolean present;
        int solos;
        int latestSolo;
        int standIns;

        void begin(int newStrength, int newHeight) {
            strength = newStrength;
            height = newHeight;
            learn(0, 0);
            part = NONE;
            present = true;
            solos = 0;
            latestSolo = NONE;
            standIns = 0;
        }

        void copyFrom(Singer other) {
            strength = other.strength;
            height = other.height;
            tested = other.tested;
            sung = other.sung;
            lowest = other.lowest;
            range = other.range;
            part = other.part;
            present = other.present;
            solos = other.solos;
            latestSolo = other.latestSolo;
            standIns = other.standIns;
        }

        void learn(long newTested, long newSung) {
            tested = newTested;
            sung = newSung;
            lowest = 0;
            range = 0;
            int row = 0;
            for (int note = 0; note < NOTES; note++) {
                row = contains(sung, note) ? row + 1 : 0;
                // Only a longer row counts: of rows as long the lowest one is the range.
                if (row > range) {
                    range = row;
                    lowest = note - row + 1;
                }
            }
        }

        int notesIn(int wanted) {
            int from = Math.max(lowest, LOWEST_NOTE[wanted]);
            int behind = Math.min(lowest + range, LOWEST_NOTE[wanted] + NOTES_OF_A_PART);
            return Math.max(0, behind - from);
        }

        boolean sitsBefore(Singer other, boolean lowerNumber) {
            return height < other.height || height == other.height && lowerNumber;
        }

        /** NONE is below every rehearsal, so one who had no solo comes before those who had. */
        boolean singsBefore(Singer other) {
            return solos < other.solos || solos == other.solos && latestSolo < other.latestSolo;
        }
    }

    /** All that changes, undo() and the images restore. */
    private static final class Choir {
        final Singer[] singers;
        final int[] settings;
        final int[] soloists;
        final int[] weak;
        int count;
        int held;
        int solos;
        int standIns;

        Choir() {
            singers = new Singer[MOST_SINGERS];
            for (int i = 0; i < MOST_SINGERS; i++) {
                singers[i] = new Singer();
            }
            settings = new int[SETTINGS];
            for (int i = 0; i < SETTINGS; i++) {
                settings[i] = SETTING_FIRST[i];
            }
            soloists = new int[MOST_REHEARSALS * PARTS];
            weak = new int[PARTS];
        }

        void copyFrom(Choir other) {
            for (int i = 0; i < other.count; i++) {
                singers[i].copyFrom(other.singers[i]);
            }
            System.arraycopy(other.settings, 0, settings, 0, SETTINGS);
            System.arraycopy(other.soloists, 0, soloists, 0, other.held * PARTS);
            System.arraycopy(other.weak, 0, weak, 0, PARTS);
            count = other.count;
            held = other.held;
            solos = other.solos;
            standIns = other.standIns;
        }

        boolean has(int singer) {
            return singer >= 0 && singer < count;
        }

        void join(int strength, int height) {
            singers[count].begin(strength, height);
            count++;
        }

        void dismiss(int singer) {
            for (int i = singer; i + 1 < count; i++) {
                singers[i].copyFrom(singers[i + 1]);
            }
            count--;
        }

        boolean fits(int singer, int part) {
            return singers[singer].notesIn(part) >= settings[LEAST_OVERLAP];
        }

        int fittingParts(int singer) {
            int set = 0;
            for (int part = 0; part < PARTS; part++) {
                if (fits(singer, part)) {
                    set |= 1 << part;
                }
            }
            return set;
        }

        int placed() {
            int sum = 0;
            for (int part = 0; part < PARTS; part++) {
                sum += members(part);
            }
            return sum;
        }

        int absent() {
            int sum = 0;
            for (int i = 0; i < count; i++) {
                sum += singers[i].present ? 0 : 1;
            }
            return sum;
        }

        int members(int part) {
            int sum = 0;
            for (int i = 0; i < count; i++) {
                sum += singers[i].part == part ? 1 : 0;
            }
            return sum;
        }

        int strength(int part) {
            int sum = 0;
            for (int i = 0; i < count; i++) {
                sum += singers[i].part == part ? singers[i].strength : 0;
            }
            return sum;
        }

        int strengthPresent(int part) {
            int sum = 0;
            for (int i = 0; i < count; i++) {
                Singer one = singers[i];
                sum += one.part == part && one.present ? one.strength : 0;
            }
            return sum;
        }

        boolean covers(int strength) {
            return strength >= settings[LEAST_COVER];
        }

        int coveredParts() {
            int set = 0;
            for (int part = 0; part < PARTS; part++) {
                if (covers(strengthPresent(part))) {
                    set |= 1 << part;
                }
            }
            return set;
        }

        boolean rested(Singer one) {
            return one.latestSolo == NONE || held - one.latestSolo > settings[PAUSE];
        }

        /** Divided by: never 0. */
        int width() {
            return Math.max(1, settings[WIDTH]);
        }

        int rows(int part) {
            return (members(part) + width() - 1) / width();
        }

        int rowsBefore(int part) {
            int sum = 0;
            for (int earlier = 0; earlier < part; earlier++) {
                sum += rows(earlier);
            }
            return sum;
        }

        int seatedBefore(int singer) {
            Singer seated = singers[singer];
            int sum = 0;
            for (int i = 0; i < count; i++) {
                Singer one = singers[i];
                if (one.part == seated.part && one.sitsBefore(seated, i < singer)) {
                    sum++;
                }
            }
            return sum;
        }
    }

    /** The states before the latest changes, as a ring: the oldest place is used again. */
    private static final class History {
        final Choir[] states;
        int oldest;
        int size;

        History() {
            states = new Choir[MOST_UNDONE];
            for (int i = 0; i < MOST_UNDONE; i++) {
                states[i] = new Choir();
            }
        }

        void record(Choir choir) {
            states[(oldest + size) % MOST_UNDONE].copyFrom(choir);
            if (size < MOST_UNDONE) {
                size++;
            } else {
                oldest = (oldest + 1) % MOST_UNDONE;
            }
        }

        /** Only to be asked when there is a state. */
        void restore(Choir choir) {
            size--;
            choir.copyFrom(states[(oldest + size) % MOST_UNDONE]);
        }
    }

    private static final class Text {
        final int[] codes;
        int length;

        Text() {
            codes = new int[MOST_BYTES];
        }
    }

    /** Reads a text byte by byte, and remembers the fault that it found last. */
    private static final class Reader {
        private static final int BETWEEN = 0, FIRST = 1, DASH = 2, SECOND = 3, CLOSED = 4;

        /** Numbers that were told (notes, or absent singers), and those of them that can be sung. */
        long told;
        long sung;
        int faultKind;
        int faultPlace;

        private int highest;
        private boolean signs;
        private int where;
        private int value;
        private int digits;
        private int start;
        private int first;

        Reader() {
            faultKind = NONE;
            faultPlace = NONE;
        }

        boolean readTests(Text text, Singer tested) {
            told = tested.tested;
            sung = tested.sung;
            highest = NOTES - 1;
            signs = true;
            return read(text);
        }

        boolean readAbsent(Text text, int singers) {
            told = 0;
            sung = 0;
            highest = singers - 1;
            signs = false;
            return read(text);
        }

        private boolean read(Text text) {
            where = BETWEEN;
            for (int place = 0; place < text.length; place++) {
                if (!take(text.codes[place], place)) {
                    return false;
                }
            }
            return end(text.length);
        }

        private boolean take(int code, int place) {
            boolean digit = code >= '0' && code <= '9';
            if (inNumber()) {
                return digit ? takeDigit(code, place) : takeBehindNumber(code, place);
            }
            if (digit && where != CLOSED) {
                beginNumber(code, place);
                return true;
            }
            if (code == ' ' && where != DASH) {
                where = BETWEEN;
                return true;
            }
            return fail(1, place);
        }

        private boolean inNumber() {
            return where == FIRST || where == SECOND;
        }

        private void beginNumber(int code, int place) {
            where = where == DASH ? SECOND : FIRST;
            value = code - '0';
            digits = 1;
            start = place;
        }

        private boolean takeDigit(int code, int place) {
            if (digits == 2) {
                return fail(1, place);
            }
            value = value * 10 + code - '0';
            digits = 2;
            return true;
        }

        private boolean takeBehindNumber(int code, int place) {
            // The number is looked at first: its fault counts whatever stands behind it.
            if (!numberStands()) {
                return fail(2, start);
            }
            if (code == ' ') {
                closeWord(true);
                where = BETWEEN;
                return true;
            }
            if (code == '!' && signs) {
                closeWord(false);
                where = CLOSED;
                return true;
            }
            if (code == '-' && signs && where == FIRST) {
                first = value;
                where = DASH;
                return true;
            }
            return fail(1, place);
        }

        private boolean end(int length) {
            if (where == DASH) {
                return fail(3, length);
            }
            if (!inNumber()) {
                return true;
            }
            if (!numberStands()) {
                return fail(2, start);
            }
            closeWord(true);
            return true;
        }

        private boolean numberStands() {
            return value <= highest && (where == FIRST || value >= first);
        }

        private void closeWord(boolean can) {
            int from = where == SECOND ? first : value;
            long numbers = ((1L << value - from + 1) - 1) << from;
            told |= numbers;
            sung = can ? sung | numbers : sung & ~numbers;
        }

        private boolean fail(int kind, int place) {
            faultKind = kind;
            faultPlace = place;
            return false;
        }
    }

    /** What the next rehearsal would be if it were held now. */
    private static final class Rehearsal {
        /** The part in which a singer stands in, or NONE. */
        final int[] standsIn;
        /** The strength of a part with those who have come or gone. */
        final int[] strength;
        final int[] soloist;

        Rehearsal() {
            standsIn = new int[MOST_SINGERS];
            strength = new int[PARTS];
            soloist = new int[PARTS];
        }

        void plan(Choir choir) {
            for (int i = 0; i < MOST_SINGERS; i++) {
                standsIn[i] = NONE;
            }
            for (int part = 0; part < PARTS; part++) {
                strength[part] = choir.strengthPresent(part);
            }
            for (int part = 0; part < PARTS; part++) {
                findStandIns(choir, part);
            }
            for (int part = 0; part < PARTS; part++) {
                soloist[part] = findSoloist(choir, part);
            }
        }

        private void findStandIns(Choir choir, int part) {
            for (int i = 0; i < choir.count && !choir.covers(strength[part]); i++) {
                if (canStandIn(choir, i, part)) {
                    Singer one = choir.singers[i];
                    strength[one.part] -= one.strength;
                    strength[part] += one.strength;
                    standsIn[i] = part;
                }
            }
        }

        private boolean canStandIn(Choir choir, int singer, int part) {
            Singer one = choir.singers[singer];
            return one.present && isPart(one.part) && one.part != part && standsIn[singer] == NONE
                    && choir.fits(singer, part) && choir.covers(strength[one.part] - one.strength);
        }

        private int findSoloist(Choir choir, int part) {
            int best = NONE;
            for (int i = 0; i < choir.count; i++) {
                Singer one = choir.singers[i];
                boolean may = one.part == part && one.present && standsIn[i] == NONE && choir.rested(one);
                if (may && (best == NONE || one.singsBefore(choir.singers[best]))) {
                    best = i;
                }
            }
            return best;
        }

        /** Makes what was planned happen, and returns the number of solos. */
        int happen(Choir choir) {
            int given = 0;
            for (int part = 0; part < PARTS; part++) {
                if (!choir.covers(strength[part])) {
                    choir.weak[part]++;
                }
                choir.soloists[choir.held * PARTS + part] = soloist[part];
                if (soloist[part] != NONE) {
                    choir.singers[soloist[part]].solos++;
                    choir.singers[soloist[part]].latestSolo = choir.held;
                    given++;
                }
            }
            choir.solos += given;
            for (int i = 0; i < choir.count; i++) {
                if (standsIn[i] != NONE) {
                    choir.singers[i].standIns++;
                    choir.standIns++;
                }
                choir.singers[i].present = true;
            }
            choir.held++;
            return given;
        }
    }

    /**
     * Finds the way to place all voices. The parts are taken as two pairs, since in a pair the sum is
     * known: the more its weaker part has, the less its stronger one has, so that one best way to
     * split it does for both aims. This looks at 2^10 sets of voices instead of 4^10 placings.
     */
    private static final class Placing {
        private final Split upper;
        private final Split lower;
        private final int[] sum;
        private final int[] got;
        /** The voices: the singers whom a part fits. */
        private final int[] voice;
        private final int[] strength;
        private final int[] fitting;
        private int voices;
        /** The least and the greatest strength of the four parts in the best placings. */
        int least;
        private int greatest;

        Placing() {
            upper = new Split();
            lower = new Split();
            sum = new int[1 << MOST_SINGERS];
            got = new int[PARTS];
            voice = new int[MOST_SINGERS];
            strength = new int[MOST_SINGERS];
            fitting = new int[MOST_SINGERS];
        }

        /** Finds the best strengths; a singer can be left out. */
        void weigh(Choir choir, int leftOut) {
            voices = 0;
            for (int i = 0; i < choir.count; i++) {
                int parts = choir.fittingParts(i);
                if (i != leftOut && parts != 0) {
                    addVoice(i, choir.singers[i].strength, parts);
                }
            }
            int all = (1 << voices) - 1;
            least = -1;
            greatest = 0;
            for (int set = 0; set <= all; set++) {
                weighPairs(set, all ^ set);
            }
        }

        private void addVoice(int singer, int itsStrength, int parts) {
            voice[voices] = singer;
            strength[voices] = itsStrength;
            fitting[voices] = parts;
            int without = 1 << voices;
            for (int set = 0; set < without; set++) {
                sum[without | set] = sum[set] + itsStrength;
            }
            upper.addVoice(voices, itsStrength, contains(parts, 0), contains(parts, 1));
            lower.addVoice(voices, itsStrength, contains(parts, 2), contains(parts, 3));
            voices++;
        }

        private void weighPairs(int above, int below) {
            int weakAbove = upper.evenest(above, sum[above]);
            int weakBelow = lower.evenest(below, sum[below]);
            if (weakAbove < 0 || weakBelow < 0) {
                return;
            }
            int weakest = Math.min(weakAbove, weakBelow);
            int strongest = Math.max(sum[above] - weakAbove, sum[below] - weakBelow);
            if (weakest > least || weakest == least && strongest < greatest) {
                least = weakest;
                greatest = strongest;
            }
        }

        /** Places all, behind weigh(): each voice in turn in the first part from which the best can still be reached. */
        void choose(Choir choir) {
            for (int i = 0; i < choir.count; i++) {
                choir.singers[i].part = NONE;
            }
            for (int part = 0; part < PARTS; part++) {
                got[part] = 0;
            }
            for (int i = 0; i < voices; i++) {
                choir.singers[voice[i]].part = firstGoodPart(i);
            }
        }

        private int firstGoodPart(int i) {
            for (int part = 0; part < PARTS; part++) {
                if (contains(fitting[i], part)) {
                    got[part] += strength[i];
                    if (canFinish(i + 1)) {
                        return part;
                    }
                    got[part] -= strength[i];
                }
            }
            return NONE;
        }

        /** Whether the voices from a number on can be placed so that the best strengths are reached. */
        private boolean canFinish(int from) {
            int all = (1 << voices - from) - 1;
            for (int set = 0; set <= all; set++) {
                int above = set << from;
                int below = (all ^ set) << from;
                if (pairCanReach(upper, above, 0) && pairCanReach(lower, below, 2)) {
                    return true;
                }
            }
            return false;
        }

        private boolean pairCanReach(Split split, int set, int part) {
            int most = Math.min(greatest - got[part], got[part + 1] + sum[set] - least);
            int fewest = Math.max(least - got[part], got[part + 1] + sum[set] - greatest);
            return split.reaches(set, fewest, most);
        }
    }

    /**
     * For every set of voices: the strengths that one part can get when the set is divided between
     * it and another part, as 128 bits, since ten voices have up to 90.
     */
    private static final class Split {
        private final long[] low;
        private final long[] high;

        Split() {
            low = new long[1 << MOST_SINGERS];
            high = new long[1 << MOST_SINGERS];
            low[0] = 1;
        }

        void addVoice(int number, int strength, boolean fitsOne, boolean fitsOther) {
            int without = 1 << number;
            for (int set = 0; set < without; set++) {
                long newLow = fitsOther ? low[set] : 0;
                long newHigh = fitsOther ? high[set] : 0;
                if (fitsOne) {
                    newLow |= low[set] << strength;
                    newHigh |= high[set] << strength | low[set] >>> 64 - strength;
                }
                low[without | set] = newLow;
                high[without | set] = newHigh;
            }
        }

        /** The most that the weaker part can have, -1 if the set cannot be divided. */
        int evenest(int set, int sum) {
            if ((low[set] | high[set]) == 0) {
                return -1;
            }
            for (int weaker = sum / 2; weaker >= 0; weaker--) {
                if (gives(set, weaker) || gives(set, sum - weaker)) {
                    return weaker;
                }
            }
            return -1;
        }

        private boolean gives(int set, int strength) {
            return strength < 64 ? contains(low[set], strength) : contains(high[set], strength - 64);
        }

        boolean reaches(int set, int from, int to) {
            return (low[set] & bits(from, to)) != 0 || (high[set] & bits(from - 64, to - 64)) != 0;
        }

        /** The bits of one long between two numbers, which may lie outside it. */
        private static long bits(int from, int to) {
            int lowest = from > 0 ? from : 0;
            int highest = to < 63 ? to : 63;
            return lowest > highest ? 0 : -1L >>> 63 - (highest - lowest) << lowest;
        }
    }
}
