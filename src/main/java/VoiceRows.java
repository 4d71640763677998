import java.util.Arrays;

/** Notes parted into at most four voices; DOC.md tells what each call answers. */
public final class VoiceRows {
    public static final int NONE = -1, RANGE = -2, STATE = -3, FULL = -4;

    private static final int MOST_NOTES = 60;
    private static final int LAST_TIME = 100000;
    private static final int TOP_PITCH = 127;
    private static final int VOICES = 4;
    private static final int TOP_WEIGHT = 1000;
    private static final int MOST_TO_FIND = 14;

    private static final int LEAP = 0, GAP = 1, CROSSING = 2, USE = 3;
    private static final int[] FIRST_WEIGHTS = {1, 1, 12, 0};

    private static final int ALL_VOICES = 4;
    private static final int CROSS = 0, MEET = 1, MEET_EVEN = 2;

    private final Score score;
    private final int[] weights;
    private final RestRows restRows;
    private final PairRows pairRows;
    private final Bill bill;
    private final Finder finder;
    private final Goer goer;

    public VoiceRows() {
        score = new Score();
        weights = FIRST_WEIGHTS.clone();
        restRows = new RestRows(score);
        pairRows = new PairRows(score);
        bill = new Bill(score, weights, pairRows);
        Lines lines = new Lines(score, weights);
        finder = new Finder(score, lines);
        goer = new Goer(score, lines);
    }

    public int clear() {
        int had = score.count;
        score.count = 0;
        System.arraycopy(FIRST_WEIGHTS, 0, weights, 0, FIRST_WEIGHTS.length);
        return had;
    }

    public int note(int from, int to, int pitch) {
        if (!canSound(from, to, pitch)) {
            return RANGE;
        }
        return score.count >= MOST_NOTES ? FULL : score.add(from, to, pitch);
    }

    public int move(int note, int from, int to, int pitch) {
        if (!score.has(note) || !canSound(from, to, pitch)) {
            return RANGE;
        }
        score.change(note, from, to, pitch);
        return 1;
    }

    public int weigh(int which, int w) {
        if (!within(which, LEAP, USE) || !within(w, 0, TOP_WEIGHT)) {
            return RANGE;
        }
        int was = weights[which];
        weights[which] = w;
        return was;
    }

    public int put(int note, int voice) {
        if (!score.has(note) || !within(voice, NONE, VOICES - 1)) {
            return RANGE;
        }
        int had = score.voice[note];
        score.voice[note] = voice;
        return had;
    }

    public int find(int n) {
        int answer = least(n);
        if (answer >= 0) {
            finder.giveFound();
        }
        return answer;
    }

    public int least(int n) {
        if (!within(n, 1, VOICES)) {
            return RANGE;
        }
        return score.count > MOST_TO_FIND ? STATE : finder.search(n);
    }

    public int along(int n) {
        if (!within(n, 1, VOICES)) {
            return RANGE;
        }
        return goer.go(n) ? 1 : NONE;
    }

    public int cost(int part) {
        if (!within(part, 0, 4)) {
            return RANGE;
        }
        return score.isWhole() ? bill.part(part) : STATE;
    }

    public int of(int note, int what) {
        if (!score.has(note)) {
            return RANGE;
        }
        switch (what) {
            case 0: return score.from[note];
            case 1: return score.to[note];
            case 2: return score.pitch[note];
            case 3: return score.voice[note];
            case 4: return score.rank[note];
            case 5: return score.following(note);
            case 6: return score.clashes(note);
            default: return RANGE;
        }
    }

    public int ranked(int rank) {
        return within(rank, 0, score.count - 1) ? score.order[rank] : RANGE;
    }

    public int sounding(int time) {
        return within(time, 0, LAST_TIME) ? score.soundingAt(time) : RANGE;
    }

    public int needed() {
        return score.thickest();
    }

    public int rests(int voice) {
        if (!within(voice, 0, ALL_VOICES)) {
            return RANGE;
        }
        restRows.collect(voice);
        return restRows.count;
    }

    public int rest(int voice, int i, int what) {
        if (!within(voice, 0, ALL_VOICES) || !within(what, 0, 1)) {
            return RANGE;
        }
        restRows.collect(voice);
        if (!within(i, 0, restRows.count - 1)) {
            return RANGE;
        }
        return what == 0 ? restRows.begin[i] : restRows.end[i];
    }

    public int pairs(int kind) {
        return within(kind, CROSS, MEET_EVEN) ? pairRows.scan(kind, NONE) : RANGE;
    }

    public int pair(int kind, int i, int which) {
        if (!within(kind, CROSS, MEET_EVEN) || !within(which, 0, 1)) {
            return RANGE;
        }
        int all = pairRows.scan(kind, i);
        if (!within(i, 0, all - 1)) {
            return RANGE;
        }
        return which == 0 ? pairRows.one : pairRows.other;
    }

    public int voice(int voice, int what) {
        if (!within(voice, 0, VOICES - 1)) {
            return RANGE;
        }
        switch (what) {
            case 0: return score.lowestIn(voice);
            case 1: return score.highestIn(voice);
            case 2: return score.notesIn(voice);
            default: return RANGE;
        }
    }

    public int told(int what) {
        switch (what) {
            case 0: return score.count;
            case 1: return score.count - score.notesIn(NONE);
            case 2: return score.theEnd();
            case 3: return score.isWhole() ? 1 : 0;
            case 4: return score.voicesUsed();
            default: return RANGE;
        }
    }

    private static boolean within(int x, int low, int high) {
        return low <= x && x <= high;
    }

    private static boolean canSound(int from, int to, int pitch) {
        return 0 <= from && from < to && to <= LAST_TIME && within(pitch, 0, TOP_PITCH);
    }

    /** The notes, their ORDER and their VOICING. */
    private static final class Score {
        int count;
        final int[] from = new int[MOST_NOTES];
        final int[] to = new int[MOST_NOTES];
        final int[] pitch = new int[MOST_NOTES];
        final int[] voice = new int[MOST_NOTES];
        final int[] order = new int[MOST_NOTES];
        final int[] rank = new int[MOST_NOTES];

        boolean has(int note) {
            return within(note, 0, count - 1);
        }

        int add(int start, int stop, int height) {
            int note = count;
            count++;
            voice[note] = NONE;
            order[note] = note;
            change(note, start, stop, height);
            return note;
        }

        void change(int note, int start, int stop, int height) {
            from[note] = start;
            to[note] = stop;
            pitch[note] = height;
            sortOrder();
        }

        // One note at most is out of its place, so sorting by insertion is cheap here.
        private void sortOrder() {
            for (int i = 1; i < count; i++) {
                int note = order[i];
                int free = i;
                while (free > 0 && isBefore(note, order[free - 1])) {
                    order[free] = order[free - 1];
                    free--;
                }
                order[free] = note;
            }
            for (int i = 0; i < count; i++) {
                rank[order[i]] = i;
            }
        }

        private boolean isBefore(int a, int b) {
            if (from[a] != from[b]) {
                return from[a] < from[b];
            }
            return pitch[a] != pitch[b] ? pitch[a] > pitch[b] : a < b;
        }

        boolean together(int a, int b) {
            return from[a] < to[b] && from[b] < to[a];
        }

        int following(int note) {
            if (voice[note] == NONE) {
                return NONE;
            }
            for (int i = rank[note] + 1; i < count; i++) {
                if (voice[order[i]] == voice[note]) {
                    return order[i];
                }
            }
            return NONE;
        }

        int clashes(int note) {
            int sum = 0;
            for (int other = 0; other < count && voice[note] != NONE; other++) {
                if (other != note && voice[other] == voice[note] && together(note, other)) {
                    sum++;
                }
            }
            return sum;
        }

        // ORDER goes by FROM: if no note of a voice reaches into the next one, none reaches further.
        boolean isWhole() {
            for (int note = 0; note < count; note++) {
                int next = following(note);
                if (voice[note] == NONE || next != NONE && together(note, next)) {
                    return false;
                }
            }
            return true;
        }

        int soundingAt(int time) {
            int sum = 0;
            for (int note = 0; note < count; note++) {
                if (from[note] <= time && time < to[note]) {
                    sum++;
                }
            }
            return sum;
        }

        // Spans need as many voices as sound at once, and that is most where one of them begins.
        int thickest() {
            int most = 0;
            for (int note = 0; note < count; note++) {
                most = Math.max(most, soundingAt(from[note]));
            }
            return most;
        }

        int theEnd() {
            int end = 0;
            for (int note = 0; note < count; note++) {
                end = Math.max(end, to[note]);
            }
            return end;
        }

        int notesIn(int line) {
            int sum = 0;
            for (int note = 0; note < count; note++) {
                if (voice[note] == line) {
                    sum++;
                }
            }
            return sum;
        }

        int voicesUsed() {
            int sum = 0;
            for (int line = 0; line < VOICES; line++) {
                if (notesIn(line) > 0) {
                    sum++;
                }
            }
            return sum;
        }

        int lowestIn(int line) {
            int lowest = NONE;
            for (int note = 0; note < count; note++) {
                if (voice[note] == line && (lowest == NONE || pitch[note] < lowest)) {
                    lowest = pitch[note];
                }
            }
            return lowest;
        }

        int highestIn(int line) {
            int highest = NONE;
            for (int note = 0; note < count; note++) {
                if (voice[note] == line) {
                    highest = Math.max(highest, pitch[note]);
                }
            }
            return highest;
        }
    }

    /** The RESTS of one voice, or of all, as collected last. */
    private static final class RestRows {
        private final Score score;
        int count;
        // Each note has one rest before it at most, and one may follow the last.
        final int[] begin = new int[MOST_NOTES + 1];
        final int[] end = new int[MOST_NOTES + 1];

        RestRows(Score score) {
            this.score = score;
        }

        void collect(int line) {
            count = 0;
            int reached = 0;
            for (int i = 0; i < score.count; i++) {
                int note = score.order[i];
                if (breaksRest(note, line)) {
                    keep(reached, score.from[note]);
                    reached = Math.max(reached, score.to[note]);
                }
            }
            keep(reached, score.theEnd());
        }

        private boolean breaksRest(int note, int line) {
            return line == ALL_VOICES ? score.voice[note] != NONE : score.voice[note] == line;
        }

        private void keep(int start, int stop) {
            if (start < stop && count < begin.length) {
                begin[count] = start;
                end[count] = stop;
                count++;
            }
        }
    }

    /** The pairs of notes with voices that cross or meet, by their RANKS. */
    private static final class PairRows {
        private final Score score;
        int one;
        int other;

        PairRows(Score score) {
            this.score = score;
        }

        /** How many pairs are of this kind; pair i of them is left in one and other. */
        int scan(int kind, int i) {
            int found = 0;
            for (int a = 0; a < score.count; a++) {
                for (int b = a + 1; b < score.count; b++) {
                    if (isPair(kind, score.order[a], score.order[b])) {
                        if (found == i) {
                            one = score.order[a];
                            other = score.order[b];
                        }
                        found++;
                    }
                }
            }
            return found;
        }

        private boolean isPair(int kind, int a, int b) {
            if (score.voice[a] == NONE || score.voice[b] == NONE || !score.together(a, b)) {
                return false;
            }
            if (kind == CROSS) {
                return isUnder(a, b) || isUnder(b, a);
            }
            return doMeet(a, b) && (kind == MEET || sameSpan(a, b));
        }

        private boolean isUnder(int a, int b) {
            return score.voice[a] < score.voice[b] && score.pitch[a] < score.pitch[b];
        }

        private boolean doMeet(int a, int b) {
            return score.voice[a] != score.voice[b] && score.pitch[a] == score.pitch[b];
        }

        private boolean sameSpan(int a, int b) {
            return score.from[a] == score.from[b] && score.to[a] == score.to[b];
        }
    }

    /** The COST of a WHOLE voicing, and its parts. */
    private static final class Bill {
        private final Score score;
        private final int[] weights;
        private final PairRows pairRows;

        Bill(Score score, int[] weights, PairRows pairRows) {
            this.score = score;
            this.weights = weights;
            this.pairRows = pairRows;
        }

        int part(int which) {
            switch (which) {
                case 1: return leaps();
                case 2: return gaps();
                case 3: return crossings();
                case 4: return used();
                default: return leaps() + gaps() + crossings() + used();
            }
        }

        private int leaps() {
            int sum = 0;
            for (int note = 0; note < score.count; note++) {
                int next = score.following(note);
                if (next != NONE) {
                    sum += Math.abs(score.pitch[next] - score.pitch[note]);
                }
            }
            return sum * weights[LEAP];
        }

        private int gaps() {
            int sum = 0;
            for (int note = 0; note < score.count; note++) {
                int next = score.following(note);
                if (next != NONE) {
                    sum += score.from[next] - score.to[note];
                }
            }
            return sum * weights[GAP];
        }

        private int crossings() {
            return pairRows.scan(CROSS, NONE) * weights[CROSSING];
        }

        private int used() {
            return score.voicesUsed() * weights[USE];
        }
    }

    /**
     * The voices while notes are given to them by ORDER. Within a voice none sound together, so
     * only the last note of each can still sound when the next one by ORDER begins.
     */
    private static final class Lines {
        private final Score score;
        private final int[] weights;
        final int[] last = new int[VOICES];

        Lines(Score score, int[] weights) {
            this.score = score;
            this.weights = weights;
        }

        void empty() {
            Arrays.fill(last, NONE);
        }

        /** By how much the COST grows if the line gets the note; NONE if its last one still sounds. */
        int added(int note, int line) {
            int before = last[line];
            if (before == NONE) {
                return weights[USE] + crossed(note, line);
            }
            int gap = score.from[note] - score.to[before];
            if (gap < 0) {
                return NONE;
            }
            int leap = Math.abs(score.pitch[note] - score.pitch[before]);
            return leap * weights[LEAP] + gap * weights[GAP] + crossed(note, line);
        }

        private int crossed(int note, int line) {
            int sum = 0;
            for (int i = 0; i < VOICES; i++) {
                int held = last[i];
                if (held != NONE && score.to[held] > score.from[note]) {
                    int rise = score.pitch[note] - score.pitch[held];
                    if (i < line && rise > 0 || i > line && rise < 0) {
                        sum += weights[CROSSING];
                    }
                }
            }
            return sum;
        }
    }

    /**
     * FINDING. What the notes still to come cost depends on the last note of each voice alone, so
     * each such state is reckoned once; its number has one digit a voice, the last one's RANK + 1.
     */
    private static final class Finder {
        private static final int UNKNOWN = -2;
        // The last note's RANK is in no state that is looked up: a digit is below the number of notes.
        private static final int MOST_STATES = MOST_TO_FIND * MOST_TO_FIND * MOST_TO_FIND * MOST_TO_FIND;

        private final Score score;
        private final Lines lines;
        private final int[] place = new int[VOICES];
        private int voices;
        // Grows with the need: objects that find for few notes shall not take the room of many.
        private int[] known = new int[0];

        Finder(Score score, Lines lines) {
            this.score = score;
            this.lines = lines;
        }

        /** The least COST with n voices; NONE if there is no WHOLE voicing. */
        int search(int n) {
            voices = n;
            makeStates();
            lines.empty();
            return onward(0, 0);
        }

        /** Gives the notes the voices of what was searched last, if that answered a COST. */
        void giveFound() {
            lines.empty();
            int state = 0;
            for (int rank = 0; rank < score.count; rank++) {
                int note = score.order[rank];
                int line = firstBest(rank, state);
                state = stateBehind(rank, state, line);
                lines.last[line] = note;
                score.voice[note] = line;
            }
        }

        private void makeStates() {
            int states = 1;
            for (int line = 0; line < voices; line++) {
                place[line] = states;
                states *= score.count;
            }
            if (states > known.length) {
                known = new int[Math.min(MOST_STATES, Math.max(states, 2 * known.length))];
            }
            Arrays.fill(known, 0, states, UNKNOWN);
        }

        /** The least COST of the notes from this rank on; NONE if they can't be WHOLE. */
        private int onward(int rank, int state) {
            if (rank >= score.count) {
                return 0;
            }
            if (known[state] != UNKNOWN) {
                return known[state];
            }
            int note = score.order[rank];
            int least = NONE;
            for (int line = 0; line < voices; line++) {
                int step = lines.added(note, line);
                // What follows costs 0 at least, so a step as dear as the least needs no further look.
                if (step != NONE && (least == NONE || step < least)) {
                    int further = behind(rank, state, line);
                    if (further != NONE && (least == NONE || step + further < least)) {
                        least = step + further;
                    }
                }
            }
            known[state] = least;
            return least;
        }

        /** The same of the notes behind this rank, if its own note goes into this line. */
        private int behind(int rank, int state, int line) {
            int next = stateBehind(rank, state, line);
            int before = lines.last[line];
            lines.last[line] = score.order[rank];
            int further = onward(rank + 1, next);
            lines.last[line] = before;
            return further;
        }

        private int stateBehind(int rank, int state, int line) {
            int before = lines.last[line];
            int digit = before == NONE ? 0 : score.rank[before] + 1;
            return state + (rank + 1 - digit) * place[line];
        }

        private int firstBest(int rank, int state) {
            int least = onward(rank, state);
            for (int line = 0; line < voices; line++) {
                int step = lines.added(score.order[rank], line);
                if (step != NONE && step <= least) {
                    int further = behind(rank, state, line);
                    if (further != NONE && step + further == least) {
                        return line;
                    }
                }
            }
            return 0;
        }
    }

    /** GOING ALONG. */
    private static final class Goer {
        private final Score score;
        private final Lines lines;
        private final int[] chosen = new int[MOST_NOTES];

        Goer(Score score, Lines lines) {
            this.score = score;
            this.lines = lines;
        }

        /** Whether all notes got one of n voices; if not, they keep those that they had. */
        boolean go(int n) {
            lines.empty();
            for (int rank = 0; rank < score.count; rank++) {
                int note = score.order[rank];
                int line = cheapest(note, n);
                if (line == NONE) {
                    return false;
                }
                lines.last[line] = note;
                chosen[note] = line;
            }
            System.arraycopy(chosen, 0, score.voice, 0, score.count);
            return true;
        }

        private int cheapest(int note, int n) {
            int best = NONE;
            int least = NONE;
            for (int line = 0; line < n; line++) {
                int sum = lines.added(note, line);
                if (sum != NONE && (best == NONE || sum < least)) {
                    best = line;
                    least = sum;
                }
            }
            return best;
        }
    }
}
