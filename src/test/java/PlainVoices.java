import java.util.ArrayList;
import java.util.Arrays;
import java.util.List;

/**
 * The document once more, as slowly and as near to its words as can be: FINDING tries every
 * VOICING, times are gone through one by one. Only for small numbers of notes and short times.
 */
final class PlainVoices {
    private static final int NONE = -1, RANGE = -2, STATE = -3, FULL = -4;

    private static final class Note {
        int number, from, to, pitch, voice = NONE;

        boolean together(Note o) {
            return from < o.to && o.from < to;
        }

        boolean soundsAt(int time) {
            return from <= time && time < to;
        }
    }

    private final List<Note> notes = new ArrayList<>();
    private int[] weights = {1, 1, 12, 0};

    private static boolean fits(int from, int to, int pitch) {
        return from >= 0 && from <= 100000 && to >= 0 && to <= 100000 && from < to && pitch >= 0 && pitch <= 127;
    }

    private boolean exists(int note) {
        return note >= 0 && note < notes.size();
    }

    private List<Note> ordered() {
        List<Note> row = new ArrayList<>(notes);
        row.sort((a, b) -> a.from != b.from ? Integer.compare(a.from, b.from)
            : a.pitch != b.pitch ? Integer.compare(b.pitch, a.pitch) : Integer.compare(a.number, b.number));
        return row;
    }

    int clear() {
        int had = notes.size();
        notes.clear();
        weights = new int[] {1, 1, 12, 0};
        return had;
    }

    int note(int from, int to, int pitch) {
        if (!fits(from, to, pitch)) return RANGE;
        if (notes.size() == 60) return FULL;
        Note x = new Note();
        x.number = notes.size();
        notes.add(x);
        set(x, from, to, pitch);
        return x.number;
    }

    private static void set(Note x, int from, int to, int pitch) {
        x.from = from;
        x.to = to;
        x.pitch = pitch;
    }

    int move(int note, int from, int to, int pitch) {
        if (!exists(note) || !fits(from, to, pitch)) return RANGE;
        set(notes.get(note), from, to, pitch);
        return 1;
    }

    int weigh(int which, int w) {
        if (which < 0 || which > 3 || w < 0 || w > 1000) return RANGE;
        int was = weights[which];
        weights[which] = w;
        return was;
    }

    int put(int note, int voice) {
        if (!exists(note) || voice < -1 || voice > 3) return RANGE;
        int had = notes.get(note).voice;
        notes.get(note).voice = voice;
        return had;
    }

    private static boolean whole(List<Note> row) {
        for (Note a : row) {
            if (a.voice == NONE) return false;
            for (Note b : row) if (a != b && a.voice == b.voice && a.together(b)) return false;
        }
        return true;
    }

    /** LEAPS, GAPS, CROSSINGS and USED of notes that stand by ORDER. */
    private long[] parts(List<Note> row) {
        long[] sum = new long[4];
        for (int v = 0; v < 4; v++) {
            Note before = null;
            for (Note x : row) {
                if (x.voice != v) continue;
                if (before == null) sum[3] += weights[3];
                else {
                    sum[0] += (long) Math.abs(x.pitch - before.pitch) * weights[0];
                    sum[1] += (long) (x.from - before.to) * weights[1];
                }
                before = x;
            }
        }
        for (Note a : row) {
            for (Note b : row) {
                if (a.together(b) && a.voice < b.voice && a.pitch < b.pitch) sum[2] += weights[2];
            }
        }
        return sum;
    }

    private long sum(List<Note> row) {
        return Arrays.stream(parts(row)).sum();
    }

    private int[] voices(List<Note> row) {
        return row.stream().mapToInt(x -> x.voice).toArray();
    }

    private static void give(List<Note> row, int[] voices) {
        for (int i = 0; i < voices.length; i++) row.get(i).voice = voices[i];
    }

    private int finding(int n, boolean keep) {
        if (n < 1 || n > 4) return RANGE;
        if (notes.size() > 14) return STATE;
        List<Note> row = ordered();
        int[] had = voices(row);
        int[] best = null;
        long least = 0;
        int[] trial = new int[row.size()];
        while (trial != null) {
            give(row, trial);
            if (whole(row) && (best == null || sum(row) < least)) {
                best = trial.clone();
                least = sum(row);
            }
            trial = next(trial, n);
        }
        give(row, keep && best != null ? best : had);
        return best == null ? NONE : (int) least;
    }

    private static int[] next(int[] trial, int n) {
        for (int i = trial.length - 1; i >= 0; i--) {
            if (trial[i] < n - 1) {
                trial[i]++;
                return trial;
            }
            trial[i] = 0;
        }
        return null;
    }

    int find(int n) {
        return finding(n, true);
    }

    int least(int n) {
        return finding(n, false);
    }

    int along(int n) {
        if (n < 1 || n > 4) return RANGE;
        List<Note> row = ordered();
        int[] had = voices(row);
        for (int i = 0; i < row.size(); i++) {
            List<Note> given = row.subList(0, i + 1);
            int best = NONE;
            long least = 0;
            for (int v = 0; v < n; v++) {
                row.get(i).voice = v;
                if (whole(given) && (best == NONE || sum(given) < least)) {
                    best = v;
                    least = sum(given);
                }
            }
            if (best == NONE) {
                give(row, had);
                return NONE;
            }
            row.get(i).voice = best;
        }
        return 1;
    }

    int cost(int part) {
        if (part < 0 || part > 4) return RANGE;
        if (!whole(notes)) return STATE;
        return (int) (part == 0 ? sum(ordered()) : parts(ordered())[part - 1]);
    }

    int of(int note, int what) {
        if (!exists(note) || what < 0 || what > 6) return RANGE;
        Note x = notes.get(note);
        List<Note> row = ordered();
        int rank = row.indexOf(x);
        switch (what) {
            case 0: return x.from;
            case 1: return x.to;
            case 2: return x.pitch;
            case 3: return x.voice;
            case 4: return rank;
            case 5: return row.stream().skip(rank + 1).filter(o -> o.voice == x.voice && x.voice != NONE)
                .mapToInt(o -> o.number).findFirst().orElse(NONE);
            default: return (int) row.stream()
                .filter(o -> o != x && x.voice != NONE && o.voice == x.voice && o.together(x)).count();
        }
    }

    int ranked(int rank) {
        return exists(rank) ? ordered().get(rank).number : RANGE;
    }

    private int soundAt(int time) {
        return (int) notes.stream().filter(x -> x.soundsAt(time)).count();
    }

    int sounding(int time) {
        return time < 0 || time > 100000 ? RANGE : soundAt(time);
    }

    int needed() {
        int most = 0;
        for (int t = 0; t < end(); t++) most = Math.max(most, soundAt(t));
        return most;
    }

    private int end() {
        return notes.stream().mapToInt(x -> x.to).max().orElse(0);
    }

    private List<int[]> restRows(int voice) {
        List<int[]> rows = new ArrayList<>();
        int[] open = null;
        for (int t = 0; t < end(); t++) {
            int time = t;
            boolean silent = notes.stream()
                .noneMatch(x -> x.soundsAt(time) && (voice == 4 ? x.voice != NONE : x.voice == voice));
            if (!silent) {
                open = null;
            } else if (open == null) {
                open = new int[] {t, t + 1};
                rows.add(open);
            } else {
                open[1] = t + 1;
            }
        }
        return rows;
    }

    int rests(int voice) {
        return voice < 0 || voice > 4 ? RANGE : restRows(voice).size();
    }

    int rest(int voice, int i, int what) {
        if (voice < 0 || voice > 4 || what < 0 || what > 1 || i < 0 || i >= restRows(voice).size()) return RANGE;
        return restRows(voice).get(i)[what];
    }

    private boolean isPair(int kind, Note a, Note b) {
        if (a.voice == NONE || b.voice == NONE || a.voice == b.voice || !a.together(b)) return false;
        if (kind == 0) return a.voice < b.voice ? a.pitch < b.pitch : b.pitch < a.pitch;
        return a.pitch == b.pitch && (kind == 1 || a.from == b.from && a.to == b.to);
    }

    private List<int[]> pairRows(int kind) {
        List<int[]> rows = new ArrayList<>();
        List<Note> row = ordered();
        for (int a = 0; a < row.size(); a++) {
            for (int b = a + 1; b < row.size(); b++) {
                if (isPair(kind, row.get(a), row.get(b))) rows.add(new int[] {row.get(a).number, row.get(b).number});
            }
        }
        return rows;
    }

    int pairs(int kind) {
        return kind < 0 || kind > 2 ? RANGE : pairRows(kind).size();
    }

    int pair(int kind, int i, int which) {
        if (kind < 0 || kind > 2 || which < 0 || which > 1 || i < 0 || i >= pairRows(kind).size()) return RANGE;
        return pairRows(kind).get(i)[which];
    }

    int voice(int voice, int what) {
        if (voice < 0 || voice > 3 || what < 0 || what > 2) return RANGE;
        int[] pitches = notes.stream().filter(x -> x.voice == voice).mapToInt(x -> x.pitch).sorted().toArray();
        if (what == 2) return pitches.length;
        return pitches.length == 0 ? NONE : pitches[what == 0 ? 0 : pitches.length - 1];
    }

    int told(int what) {
        switch (what) {
            case 0: return notes.size();
            case 1: return (int) notes.stream().filter(x -> x.voice != NONE).count();
            case 2: return end();
            case 3: return whole(notes) ? 1 : 0;
            case 4: return (int) notes.stream().mapToInt(x -> x.voice).filter(v -> v != NONE).distinct().count();
            default: return RANGE;
        }
    }
}
