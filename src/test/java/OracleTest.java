import java.util.Random;

/** Runs of calls, drawn with fixed seeds, on VoiceRows and on PlainVoices: all answers must agree. */
public final class OracleTest {
    private static final Due due = new Due("OracleTest");

    private final Random draw;
    private final VoiceRows x = new VoiceRows();
    private final PlainVoices plain = new PlainVoices();
    private final int seed, span, notes, longest;
    private int call;

    private OracleTest(int seed, int span, int notes) {
        this.seed = seed;
        this.span = span;
        this.notes = notes;
        draw = new Random(seed);
        longest = 1 + draw.nextInt(Math.max(1, span / 2));
    }

    public static void main(String[] args) {
        for (int seed = 0; seed < 400 && due.wrong() < 20; seed++) new OracleTest(seed, 12, 5).run(200);
        for (int seed = 400; seed < 520 && due.wrong() < 20; seed++) new OracleTest(seed, 30, 7).run(120);
        for (int seed = 520; seed < 560 && due.wrong() < 20; seed++) new OracleTest(seed, 120, 61).run(400);
        for (int seed = 560; seed < 590 && due.wrong() < 20; seed++) twoVoicesOfFourteen(seed);
        due.end();
    }

    /** As many notes as find takes; with two voices all VOICINGS can still be tried. */
    private static void twoVoicesOfFourteen(int seed) {
        OracleTest t = new OracleTest(seed, 40, 14);
        int time = 0;
        for (int i = 0; i < 14; i++) {
            int from = time + t.draw.nextInt(3);
            t.note(from, from + 1 + t.draw.nextInt(4), 60 + t.draw.nextInt(6));
            time = from + 1 + t.draw.nextInt(3);
        }
        t.weigh(t.draw.nextInt(4), t.draw.nextInt(20));
        t.is("find(2)", t.x.find(2), t.plain.find(2));
        t.askAll();
    }

    private void run(int calls) {
        for (int i = 0; i < calls; i++) {
            change();
            if (i % 10 == 9) ask();
        }
        askAll();
    }

    private void is(String what, int got, int want) {
        call++;
        due.is("seed " + seed + ", call " + call + ": " + what, got, want);
    }

    private int pick(int low, int high) {
        // Now and then one step beyond the edge, so that refusals are met too.
        int at = draw.nextInt(40);
        return at == 0 ? low - 1 : at == 1 ? high + 1 : low + draw.nextInt(high - low + 1);
    }

    private void note(int from, int to, int pitch) {
        is("note(" + from + ", " + to + ", " + pitch + ")", x.note(from, to, pitch), plain.note(from, to, pitch));
    }

    private void weigh(int which, int w) {
        is("weigh(" + which + ", " + w + ")", x.weigh(which, w), plain.weigh(which, w));
    }

    private void change() {
        int from = pick(0, span), to = from + pick(1, longest), pitch = 60 + draw.nextInt(5);
        int one = pick(0, Math.max(0, plain.told(0) - 1)), v = pick(-1, 3), n = pick(1, 4);
        switch (draw.nextInt(12)) {
            case 0: case 1: case 2: case 3:
                if (plain.told(0) < notes) note(from, to, pitch);
                break;
            case 4:
                is("move(" + one + ", " + from + ", " + to + ", " + pitch + ")",
                    x.move(one, from, to, pitch), plain.move(one, from, to, pitch));
                break;
            case 5:
                weigh(pick(0, 3), draw.nextInt(4) == 0 ? pick(0, 1000) : draw.nextInt(5));
                break;
            case 6: case 7:
                is("put(" + one + ", " + v + ")", x.put(one, v), plain.put(one, v));
                break;
            case 8:
                fillLongRun();
                is("find(" + n + ")", x.find(n), plain.find(n));
                break;
            case 9:
                fillLongRun();
                is("least(" + n + ")", x.least(n), plain.least(n));
                break;
            case 10:
                is("along(" + n + ")", x.along(n), plain.along(n));
                break;
            default:
                if (draw.nextInt(20) == 0 && notes < 20) is("clear()", x.clear(), plain.clear());
        }
    }

    /** FINDING can't be tried plainly for 8 to 14 notes: a long run first gets so many that it is refused. */
    private void fillLongRun() {
        while (notes >= 20 && plain.told(0) < 15) {
            int at = plain.told(0);
            note(at, at + 3, 60);
        }
    }

    private void ask() {
        int v = pick(0, 4), i = pick(0, 5), kind = pick(0, 2), time = pick(0, span + longest);
        for (int part = -1; part <= 5; part++) is("cost(" + part + ")", x.cost(part), plain.cost(part));
        for (int what = -1; what <= 5; what++) is("told(" + what + ")", x.told(what), plain.told(what));
        is("sounding(" + time + ")", x.sounding(time), plain.sounding(time));
        is("needed()", x.needed(), plain.needed());
        is("rests(" + v + ")", x.rests(v), plain.rests(v));
        is("rest(" + v + ", " + i + ", 0)", x.rest(v, i, 0), plain.rest(v, i, 0));
        is("pairs(" + kind + ")", x.pairs(kind), plain.pairs(kind));
        is("pair(" + kind + ", " + i + ", 1)", x.pair(kind, i, 1), plain.pair(kind, i, 1));
    }

    private void askAll() {
        ask();
        int all = plain.told(0);
        for (int one = -1; one <= all; one++) {
            is("ranked(" + one + ")", x.ranked(one), plain.ranked(one));
            for (int what = -1; what <= 7; what++) {
                is("of(" + one + ", " + what + ")", x.of(one, what), plain.of(one, what));
            }
        }
        for (int v = -1; v <= 5; v++) {
            for (int what = -1; what <= 3; what++) {
                is("voice(" + v + ", " + what + ")", x.voice(v, what), plain.voice(v, what));
            }
            is("rests(" + v + ")", x.rests(v), plain.rests(v));
            askRows("rest", v, plain.rests(v));
        }
        for (int kind = -1; kind <= 3; kind++) {
            is("pairs(" + kind + ")", x.pairs(kind), plain.pairs(kind));
            askRows("pair", kind, Math.min(30, plain.pairs(kind)));
        }
    }

    private void askRows(String name, int of, int rows) {
        for (int i = -1; i <= rows; i++) {
            for (int what = -1; what <= 2; what++) {
                String text = name + "(" + of + ", " + i + ", " + what + ")";
                if (name.equals("rest")) is(text, x.rest(of, i, what), plain.rest(of, i, what));
                else is(text, x.pair(of, i, what), plain.pair(of, i, what));
            }
        }
    }
}
