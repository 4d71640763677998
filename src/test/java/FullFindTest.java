import java.util.Random;

/** FINDING for 14 notes with up to four voices, and calls that are the dearest there are. */
public final class FullFindTest {
    private static final int NOTES = 14;
    private static final Due due = new Due("FullFindTest");

    private final int[] from = new int[NOTES], to = new int[NOTES], pitch = new int[NOTES];
    private final int[] weights = new int[4];
    private final int[] trial = new int[NOTES];
    private int[] best;
    private long least;
    private int voices;

    public static void main(String[] args) {
        for (int seed = 0; seed < 60 && due.wrong() < 20; seed++) new FullFindTest().run(new Random(seed));
        dearestFinds();
        growingFinds();
        due.end();
    }

    private void run(Random draw) {
        VoiceRows x = new VoiceRows();
        drawNotes(draw);
        for (int i = 0; i < 4; i++) {
            weights[i] = draw.nextInt(2) == 0 ? draw.nextInt(4) : draw.nextInt(30);
            x.weigh(i, weights[i]);
        }
        for (int i = 0; i < NOTES; i++) x.note(from[i], to[i], pitch[i]);
        for (int n = 2; n <= 4; n++) {
            voices = n;
            best = null;
            tryFrom(0, 0);
            due.is("least(" + n + ")", x.least(n), best == null ? -1 : least);
            due.is("find(" + n + ")", x.find(n), best == null ? -1 : least);
            if (best != null) {
                due.is("cost(0)", x.cost(0), least);
                for (int i = 0; i < NOTES; i++) due.is("find(" + n + "), of(" + i + ", 3)", x.of(i, 3), best[i]);
            }
        }
    }

    /** Notes that come by ORDER already, so that a NOTE's number is its RANK. */
    private void drawNotes(Random draw) {
        int time = draw.nextInt(5), thick = 2 + draw.nextInt(4);
        for (int i = 0; i < NOTES; i++) {
            boolean same = i > 0 && draw.nextInt(3) == 0 && pitch[i - 1] > 2;
            if (!same) time += 1 + draw.nextInt(3);
            from[i] = time;
            to[i] = time + 1 + draw.nextInt(thick);
            pitch[i] = same ? pitch[i - 1] - draw.nextInt(3) : 40 + draw.nextInt(12);
        }
    }

    /** All VOICINGS, lesser voices first; one that costs as much as the best already is left. */
    private void tryFrom(int note, long sum) {
        if (best != null && sum >= least) return;
        if (note == NOTES) {
            best = trial.clone();
            least = sum;
            return;
        }
        for (int v = 0; v < voices; v++) {
            long more = more(note, v);
            trial[note] = v;
            if (more >= 0) tryFrom(note + 1, sum + more);
        }
    }

    private long more(int note, int v) {
        long more = 0;
        int before = -1;
        for (int i = 0; i < note; i++) {
            boolean together = from[i] < to[note] && from[note] < to[i];
            if (trial[i] == v) {
                if (together) return -1;
                before = i;
            } else if (together && (trial[i] < v ? pitch[i] < pitch[note] : pitch[note] < pitch[i])) {
                more += weights[2];
            }
        }
        if (before < 0) return more + weights[3];
        return more + (long) weights[0] * Math.abs(pitch[note] - pitch[before]) + (long) weights[1] * (from[note] - to[before]);
    }

    /** One behind the other with four voices: every VOICING is WHOLE, and all calls of an object find. */
    private static void dearestFinds() {
        VoiceRows x = new VoiceRows();
        for (int i = 0; i < NOTES; i++) x.note(100 * i, 100 * i + 1 + i % 5, 60 + 7 * i % 24);
        int first = x.find(4);
        for (int call = NOTES + 1; call < 512; call++) {
            due.is("call " + call, call % 2 == 0 ? x.find(4) : x.least(4), first);
        }
    }

    /** One note more from find to find, and few voices after many: rows that are used again must fit. */
    private static void growingFinds() {
        VoiceRows x = new VoiceRows();
        for (int i = 0; i < NOTES; i++) {
            x.note(i, i + 1, 60);
            for (int n = 4; n >= 1; n--) due.is("find(" + n + ") with " + (i + 1), x.find(n), 0);
            due.is("all in voice 0", x.voice(0, 2), i + 1);
        }
        due.is("clear()", x.clear(), NOTES);
        due.is("find(4) with none", x.find(4), 0);
        for (int v = 0; v < 4; v++) x.note(0, 5, 70 - v);
        due.is("find(3) with four at once", x.find(3), -1);
        due.is("find(4) with four at once", x.find(4), 0);
        for (int v = 0; v < 4; v++) due.is("of(" + v + ", 3)", x.of(v, 3), v);
    }
}
