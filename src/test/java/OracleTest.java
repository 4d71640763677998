import java.util.Random;

/** Runs of 512 calls, drawn with fixed seeds, on VoiceRows and on PlainVoices: all answers must agree. */
public final class OracleTest {
    private static final Due due = new Due("OracleTest");
    private static final int CALLS = 512;

    private final Random draw;
    private final VoiceRows x = new VoiceRows();
    private final PlainVoices plain = new PlainVoices();
    private final int seed, span, notes, longest;
    private int call;

    private OracleTest(int seed, int span, int notes) {
        this.seed = seed;
        this.span = span;
        this.notes = notes;
        draw = new Random(seed);
        longest = 1 + draw.nextInt(Math.max(1, span / 2));
    }

    public static void main(String[] args) {
        for (int seed = 0; seed < 1000 && due.wrong() < 20; seed++) new OracleTest(seed, 12, 5).run();
        for (int seed = 1000; seed < 1100 && due.wrong() < 20; seed++) new OracleTest(seed, 30, 7).run();
        for (int seed = 1100; seed < 1200 && due.wrong() < 20; seed++) new OracleTest(seed, 120, 61).run();
        for (int seed = 1200; seed < 1230 && due.wrong() < 20; seed++) twoVoicesOfFourteen(seed);
        due.end();
    }

    /** As many notes as find takes; with two voices all VOICINGS can still be tried. */
    private static void twoVoicesOfFourteen(int seed) {
        OracleTest t = new OracleTest(seed, 40, 14);
        int time = 0;
        for (int i = 0; i < 14; i++) {
            int from = time + t.draw.nextInt(3);
            t.note(from, from + 1 + t.draw.nextInt(4), 60 + t.draw.nextInt(6));
            time = from + 1 + t.draw.nextInt(3);
        }
        t.weigh(t.draw.nextInt(4), t.draw.nextInt(20));
        t.is("find(2)", t.x.find(2), t.plain.find(2));
        for (int i = 0; i < 14; i++) t.is("of(" + i + ", 3)", t.x.of(i, 3), t.plain.of(i, 3));
        while (t.call < CALLS) t.ask();
    }

    private void run() {
        // A long run has many notes soon, so that what is asked is asked of many.
        for (int i = 0; notes > 20 && i < 50; i++) {
            int from = pick(0, span);
            note(from, from + pick(1, longest), 60 + i % 5);
        }
        while (call < CALLS) {
            if (draw.nextInt(3) == 0) change();
            else ask();
        }
    }

    private void is(String what, int got, int want) {
        call++;
        due.is("seed " + seed + ", call " + call + ": " + what, got, want);
    }

    private int pick(int low, int high) {
        // Now and then one step beyond the edge, so that refusals are met too.
        int at = draw.nextInt(40);
        return at == 0 ? low - 1 : at == 1 ? high + 1 : low + draw.nextInt(high - low + 1);
    }

    private int pickNote() {
        return pick(0, Math.max(0, plain.told(0) - 1));
    }

    private void note(int from, int to, int pitch) {
        is("note(" + from + ", " + to + ", " + pitch + ")", x.note(from, to, pitch), plain.note(from, to, pitch));
    }

    private void weigh(int which, int w) {
        is("weigh(" + which + ", " + w + ")", x.weigh(which, w), plain.weigh(which, w));
    }

    private void change() {
        int from = pick(0, span), to = from + pick(1, longest), pitch = 60 + draw.nextInt(5);
        int one = pickNote(), v = pick(-1, 3), n = pick(1, 4);
        // FINDING can't be tried plainly for 8 to 14 notes.
        boolean canFind = plain.told(0) < 8 || plain.told(0) > 14;
        switch (draw.nextInt(12)) {
            case 0: case 1: case 2: case 3:
                if (plain.told(0) < notes) note(from, to, pitch);
                break;
            case 4:
                is("move(" + one + ", " + from + ", " + to + ", " + pitch + ")",
                    x.move(one, from, to, pitch), plain.move(one, from, to, pitch));
                break;
            case 5:
                weigh(pick(0, 3), draw.nextInt(4) == 0 ? pick(0, 1000) : draw.nextInt(5));
                break;
            case 6: case 7:
                is("put(" + one + ", " + v + ")", x.put(one, v), plain.put(one, v));
                break;
            case 8:
                if (canFind) is("find(" + n + ")", x.find(n), plain.find(n));
                break;
            case 9:
                if (canFind) is("least(" + n + ")", x.least(n), plain.least(n));
                break;
            case 10:
                is("along(" + n + ")", x.along(n), plain.along(n));
                break;
            default:
                if (draw.nextInt(20) == 0 && notes < 20) is("clear()", x.clear(), plain.clear());
        }
    }

    private void ask() {
        switch (draw.nextInt(8)) {
            case 0: askNote(pickNote(), pick(0, 6)); break;
            case 1: askNote(draw.nextInt(Math.max(1, plain.told(0))), 5 + draw.nextInt(2)); break;
            case 2: askVoice(pick(0, 3), pick(0, 2)); break;
            case 3: askRests(pick(0, 4)); break;
            case 4: askPairs(pick(0, 2)); break;
            case 5: askCost(pick(0, 4)); break;
            case 6: askTold(pick(0, 4)); break;
            default: askTimes(pick(0, span + longest));
        }
    }

    private void askNote(int one, int what) {
        is("of(" + one + ", " + what + ")", x.of(one, what), plain.of(one, what));
        if (what == 4 && call < CALLS) is("ranked(" + one + ")", x.ranked(one), plain.ranked(one));
    }

    private void askVoice(int v, int what) {
        is("voice(" + v + ", " + what + ")", x.voice(v, what), plain.voice(v, what));
    }

    private void askRests(int v) {
        int all = plain.rests(v), i = pick(0, Math.max(0, all - 1)), what = pick(0, 1);
        if (draw.nextInt(3) == 0) is("rests(" + v + ")", x.rests(v), all);
        else is("rest(" + v + ", " + i + ", " + what + ")", x.rest(v, i, what), plain.rest(v, i, what));
    }

    private void askPairs(int kind) {
        int all = plain.pairs(kind), i = pick(0, Math.max(0, all - 1)), which = pick(0, 1);
        if (draw.nextInt(3) == 0) is("pairs(" + kind + ")", x.pairs(kind), all);
        else is("pair(" + kind + ", " + i + ", " + which + ")", x.pair(kind, i, which), plain.pair(kind, i, which));
    }

    private void askCost(int part) {
        is("cost(" + part + ")", x.cost(part), plain.cost(part));
    }

    private void askTold(int what) {
        is("told(" + what + ")", x.told(what), plain.told(what));
    }

    private void askTimes(int time) {
        if (draw.nextInt(3) == 0) is("needed()", x.needed(), plain.needed());
        else is("sounding(" + time + ")", x.sounding(time), plain.sounding(time));
    }
}
