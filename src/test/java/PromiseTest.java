/** Every promise of the document by its number: ordinary inputs, its edges, wrong inputs. */
public final class PromiseTest {
    private static final int NONE = -1, RANGE = -2, STATE = -3, FULL = -4;
    private static final int LOW = Integer.MIN_VALUE, HIGH = Integer.MAX_VALUE;
    private static final Due due = new Due("PromiseTest");

    public static void main(String[] args) {
        newObject();
        clear();
        note();
        move();
        order();
        weigh();
        put();
        find();
        findTies();
        findWeighs();
        least();
        along();
        alongGivesUp();
        alongWeighs();
        cost();
        costOfMost();
        of();
        ranked();
        sounding();
        needed();
        rests();
        manyRests();
        rest();
        pairs();
        pair();
        voice();
        told();
        refusedChangesNothing();
        due.end();
    }

    /** Two voices that cross once, a note that waits for none, and times without a sound. */
    private static VoiceRows sample() {
        VoiceRows x = new VoiceRows();
        x.note(2, 6, 60);
        x.note(2, 6, 67);
        x.note(8, 10, 64);
        x.note(7, 12, 62);
        x.note(14, 16, 70);
        x.put(0, 0);
        x.put(1, 2);
        x.put(2, 0);
        x.put(3, 2);
        return x;
    }

    private static VoiceRows single() {
        VoiceRows x = new VoiceRows();
        x.note(3, 4, 60);
        return x;
    }

    private static void newObject() {
        VoiceRows x = new VoiceRows();
        int[] told = {0, 0, 0, 1, 0};
        for (int what = 0; what < 5; what++) due.is("1: told(" + what + ")", x.told(what), told[what]);
        for (int part = 0; part < 5; part++) due.is("1: cost(" + part + ")", x.cost(part), 0);
        for (int voice = 0; voice < 5; voice++) due.is("1: rests(" + voice + ")", x.rests(voice), 0);
        for (int kind = 0; kind < 3; kind++) due.is("1: pairs(" + kind + ")", x.pairs(kind), 0);
        for (int n = 1; n < 5; n++) {
            due.is("1: find(" + n + ")", x.find(n), 0);
            due.is("1: least(" + n + ")", x.least(n), 0);
            due.is("1: along(" + n + ")", x.along(n), 1);
        }
        due.is("1: of(0, 0)", x.of(0, 0), RANGE);
        due.is("1: ranked(0)", x.ranked(0), RANGE);
        due.is("1: needed()", x.needed(), 0);
        due.is("1: sounding(0)", x.sounding(0), 0);
        int[] weights = {1, 1, 12, 0};
        for (int i = 0; i < 4; i++) due.is("1: weight " + i, x.weigh(i, weights[i]), weights[i]);
        VoiceRows y = sample();
        due.is("1: objects share nothing", x.told(0), 0);
        due.is("1: objects share nothing", y.told(0), 5);
    }

    private static void clear() {
        VoiceRows x = sample();
        for (int i = 0; i < 4; i++) x.weigh(i, 7);
        due.is("2: clear()", x.clear(), 5);
        due.is("2: clear() again", x.clear(), 0);
        due.is("2: told(0)", x.told(0), 0);
        due.is("2: told(2)", x.told(2), 0);
        due.is("2: of(0, 3)", x.of(0, 3), RANGE);
        due.is("2: pairs(0)", x.pairs(0), 0);
        due.is("2: note", x.note(0, 1, 5), 0);
        due.is("2: a new note has no voice", x.of(0, 3), NONE);
        int[] weights = {1, 1, 12, 0};
        for (int i = 0; i < 4; i++) due.is("2: weight " + i, x.weigh(i, 3), weights[i]);
    }

    private static void note() {
        VoiceRows x = new VoiceRows();
        int[][] wrong = {{-1, 5, 60}, {5, 5, 60}, {6, 5, 60}, {0, 100001, 60}, {100000, 100001, 60}, {100000, 100000, 60},
            {0, 5, -1}, {0, 5, 128}, {0, 0, 0}, {LOW, 5, 60}, {0, HIGH, 60}, {LOW, HIGH, 60}, {HIGH, LOW, 60}, {0, 5, LOW}, {0, 5, HIGH}};
        for (int[] w : wrong) due.is("3: wrong note", x.note(w[0], w[1], w[2]), RANGE);
        due.is("3: told(0)", x.told(0), 0);
        due.is("3: the widest", x.note(0, 100000, 127), 0);
        due.is("3: the last", x.note(99999, 100000, 0), 1);
        due.is("3: its voice", x.of(1, 3), NONE);
        for (int i = 2; i < 60; i++) due.is("3: note " + i, x.note(i, i + 1, 60), i);
        due.is("3: the 61st", x.note(0, 1, 60), FULL);
        due.is("3: RANGE comes before FULL", x.note(1, 1, 60), RANGE);
        due.is("3: told(0)", x.told(0), 60);
    }

    private static void move() {
        VoiceRows x = sample();
        due.is("4: move", x.move(1, 20, 30, 50), 1);
        int[] want = {20, 30, 50, 2, 4, NONE, 0};
        for (int what = 0; what < 7; what++) due.is("4: of(1, " + what + ")", x.of(1, what), want[what]);
        due.is("4: into its voice", x.move(1, 11, 13, 50), 1);
        due.is("4: clash", x.of(1, 6), 1);
        due.is("4: the end", x.told(2), 16);
        due.is("4: to where it is", x.move(1, 11, 13, 50), 1);
        int[][] wrong = {{-1, 0, 1, 60}, {5, 0, 1, 60}, {LOW, 0, 1, 60}, {HIGH, 0, 1, 60}, {0, -1, 1, 60}, {0, 3, 3, 60},
            {0, 4, 3, 60}, {0, 0, 100001, 60}, {0, 0, 1, -1}, {0, 0, 1, 128}};
        for (int[] w : wrong) due.is("4: wrong move", x.move(w[0], w[1], w[2], w[3]), RANGE);
        due.is("4: edges", x.move(0, 0, 100000, 0), 1);
        due.is("4: edges", x.move(0, 99999, 100000, 127), 1);
        due.is("4: no note was moved in an empty object", new VoiceRows().move(0, 0, 1, 60), RANGE);
    }

    private static void order() {
        VoiceRows x = new VoiceRows();
        x.note(5, 9, 60);
        x.note(5, 6, 61);
        x.note(5, 7, 60);
        x.note(4, 6, 10);
        int[] row = {3, 1, 0, 2};
        for (int i = 0; i < 4; i++) due.is("ORDER: ranked(" + i + ")", x.ranked(i), row[i]);
        x.move(2, 5, 7, 62);
        x.move(3, 6, 7, 127);
        int[] moved = {2, 1, 0, 3};
        for (int i = 0; i < 4; i++) {
            due.is("ORDER: ranked(" + i + ")", x.ranked(i), moved[i]);
            due.is("ORDER: of(.., 4)", x.of(moved[i], 4), i);
        }
    }

    private static void weigh() {
        VoiceRows x = new VoiceRows();
        int[] first = {1, 1, 12, 0};
        for (int i = 0; i < 4; i++) {
            due.is("5: first", x.weigh(i, 1000), first[i]);
            due.is("5: then", x.weigh(i, 0), 1000);
            due.is("5: too much", x.weigh(i, 1001), RANGE);
            due.is("5: too little", x.weigh(i, -1), RANGE);
            due.is("5: unchanged", x.weigh(i, i), 0);
        }
        int[] wrong = {-1, 4, LOW, HIGH};
        for (int which : wrong) due.is("5: weigh(" + which + ", 1)", x.weigh(which, 1), RANGE);
        due.is("5: weigh(0, HIGH)", x.weigh(0, HIGH), RANGE);
        for (int i = 0; i < 4; i++) due.is("5: each its own", x.weigh(i, 5), i);
    }

    private static void put() {
        VoiceRows x = sample();
        due.is("6: put(4, 3)", x.put(4, 3), NONE);
        due.is("6: put(4, 0)", x.put(4, 0), 3);
        due.is("6: put(4, NONE)", x.put(4, NONE), 0);
        due.is("6: put(4, NONE) again", x.put(4, NONE), NONE);
        due.is("6: sounding together is allowed", x.put(1, 0), 2);
        due.is("6: of(1, 3)", x.of(1, 3), 0);
        int[][] wrong = {{-1, 0}, {5, 0}, {LOW, 0}, {HIGH, 0}, {0, -2}, {0, 4}, {0, LOW}, {0, HIGH}};
        for (int[] w : wrong) due.is("6: put(" + w[0] + ", " + w[1] + ")", x.put(w[0], w[1]), RANGE);
        due.is("6: of(0, 3)", x.of(0, 3), 0);
    }

    private static void find() {
        VoiceRows x = sample();
        due.is("7: one voice is too few", x.find(1), NONE);
        due.is("7: nothing changes", x.of(1, 3), 2);
        due.is("7: nothing changes", x.of(4, 3), NONE);
        // 67 to 64 to 70 above, 60 to 62 below: leaps 3 + 6 + 2, gaps 2 + 4 + 1, no crossing
        due.is("7: find(2)", x.find(2), 18);
        int[] voices = {1, 0, 0, 1, 0};
        for (int i = 0; i < 5; i++) due.is("7: of(" + i + ", 3)", x.of(i, 3), voices[i]);
        due.is("7: its COST", x.cost(0), 18);
        int[] wrong = {0, 5, -1, LOW, HIGH};
        for (int n : wrong) due.is("7: find(" + n + ")", x.find(n), RANGE);
        for (int i = 5; i < 14; i++) x.note(10 * i, 10 * i + 10, 60);
        due.is("7: 14 notes", x.find(4) >= 0 ? 1 : 0, 1);
        x.note(1000, 1001, 60);
        due.is("7: 15 notes", x.find(4), STATE);
        due.is("7: RANGE comes before STATE", x.find(5), RANGE);
        due.is("7: refused, the 15th has no voice", x.of(14, 3), NONE);
    }

    private static void findTies() {
        VoiceRows x = new VoiceRows();
        for (int i = 0; i < 4; i++) x.weigh(i, 0);
        for (int i = 0; i < 4; i++) x.note(3 - i, 5 - i, 60 + i);
        due.is("7: all voicings cost nothing", x.find(4), 0);
        int[] voices = {1, 0, 1, 0};
        for (int i = 0; i < 4; i++) due.is("7: lesser voice first by ORDER, of(" + i + ", 3)", x.of(i, 3), voices[i]);
        x.clear();
        x.weigh(3, 10);
        x.weigh(1, 0);
        x.note(0, 1, 60);
        x.note(1, 2, 70);
        due.is("7: a leap of 10 or a second voice for 10", x.find(2), 20);
        due.is("7: the lesser voice", x.of(1, 3), 0);
        x.weigh(3, 9);
        due.is("7: a second voice for 9", x.find(2), 18);
        due.is("7: the other voice", x.of(1, 3), 1);
    }

    /** A melody over a held note, with each weight in turn alone. */
    private static void findWeighs() {
        VoiceRows x = new VoiceRows();
        x.note(0, 10, 60);
        x.note(1, 3, 70);
        x.note(5, 7, 50);
        x.note(9, 12, 64);
        x.note(14, 15, 61);
        int[][] voices = {{0, 1, 2, 1, 0}, {0, 1, 1, 1, 2}, {1, 0, 2, 0, 0}, {0, 1, 1, 1, 0}};
        // leaps 6 + 1; gaps 2 + 2; no crossing; two voices
        int[] least = {7, 4, 0, 2};
        for (int which = 0; which < 4; which++) {
            for (int i = 0; i < 4; i++) x.weigh(i, i == which ? 1 : 0);
            due.is("7: only weight " + which, x.find(3), least[which]);
            for (int i = 0; i < 5; i++) due.is("7: only weight " + which + ", of(" + i + ", 3)", x.of(i, 3), voices[which][i]);
            due.is("7: only weight " + which + ", its part", x.cost(which + 1), least[which]);
        }
    }

    private static void least() {
        VoiceRows x = sample();
        due.is("8: least(1)", x.least(1), NONE);
        due.is("8: least(2)", x.least(2), 18);
        int[] voices = {0, 2, 0, 2, NONE};
        for (int i = 0; i < 5; i++) due.is("8: nothing changes, of(" + i + ", 3)", x.of(i, 3), voices[i]);
        due.is("8: as find", x.least(4), x.find(4));
        int[] wrong = {0, 5, -1, LOW, HIGH};
        for (int n : wrong) due.is("8: least(" + n + ")", x.least(n), RANGE);
        for (int i = 5; i < 15; i++) x.note(10 * i, 10 * i + 10, 60);
        due.is("8: 15 notes", x.least(4), STATE);
        due.is("8: RANGE comes before STATE", x.least(0), RANGE);
    }

    private static void along() {
        VoiceRows x = new VoiceRows();
        x.note(0, 2, 60);
        x.note(2, 4, 72);
        x.note(2, 4, 60);
        x.put(0, 3);
        due.is("9: along(1)", x.along(1), NONE);
        due.is("9: along(2)", x.along(2), 1);
        // Note 1 comes first by ORDER, and a voice that is new costs nothing: less than a leap of 12.
        int[] voices = {0, 1, 0};
        for (int i = 0; i < 3; i++) due.is("9: of(" + i + ", 3)", x.of(i, 3), voices[i]);
        due.is("9: the crossing that follows was not foreseen", x.cost(3), 12);
        x.weigh(3, 13);
        due.is("9: along(2), voices dear", x.along(2), 1);
        due.is("9: it leaps for 12", x.of(1, 3), 0);
        due.is("9: the other voice is left", x.of(2, 3), 1);
        x.weigh(3, 12);
        due.is("9: along(4), as dear as the leap", x.along(4), 1);
        due.is("9: of several the lesser", x.of(1, 3), 0);
        int[] wrong = {0, 5, -1, LOW, HIGH};
        for (int n : wrong) due.is("9: along(" + n + ")", x.along(n), RANGE);
        for (int i = 3; i < 60; i++) x.note(i, i + 4, i);
        due.is("9: 60 notes", x.along(4), 1);
        due.is("9: 60 notes are whole", x.told(3), 1);
    }

    private static void alongGivesUp() {
        VoiceRows x = new VoiceRows();
        for (int i = 0; i < 5; i++) x.note(i, 10, 60);
        x.put(0, 3);
        x.put(4, 3);
        due.is("9: five at once", x.along(4), NONE);
        for (int i = 0; i < 5; i++) due.is("9: nothing changes", x.of(i, 3), i == 0 || i == 4 ? 3 : NONE);
        x.move(4, 10, 11, 60);
        due.is("9: one behind the others", x.along(4), 1);
        due.is("9: one behind the others", x.of(4, 3), 0);
    }

    private static void alongWeighs() {
        VoiceRows x = new VoiceRows();
        x.note(0, 10, 60);
        x.note(1, 3, 70);
        x.note(4, 6, 50);
        due.is("9: three voices", x.along(3), 1);
        // Note 1 crosses note 0 in either voice that is left; note 2 would leap by 20, or come by a new voice.
        due.is("9: of(1, 3)", x.of(1, 3), 1);
        due.is("9: of(2, 3)", x.of(2, 3), 2);
        due.is("9: one crossing", x.cost(3), 12);
        x.weigh(3, 30);
        due.is("9: a new voice is dear", x.along(3), 1);
        due.is("9: of(2, 3)", x.of(2, 3), 1);
        x.move(0, 0, 10, 80);
        x.move(1, 0, 1, 90);
        x.move(2, 4, 6, 85);
        due.is("9: the higher first", x.along(2), 1);
        due.is("9: of(1, 3)", x.of(1, 3), 0);
        due.is("9: of(0, 3)", x.of(0, 3), 1);
        due.is("9: of(2, 3)", x.of(2, 3), 0);
    }

    private static void cost() {
        VoiceRows x = sample();
        due.is("10: not WHOLE", x.cost(0), STATE);
        due.is("10: RANGE comes before STATE", x.cost(5), RANGE);
        x.put(4, 1);
        // leaps 4 + 5, gaps 2 + 1; 60 in voice 0 is below 67 in voice 2
        int[] want = {9 + 3 + 12, 9, 3, 12, 0};
        for (int part = 0; part < 5; part++) due.is("10: cost(" + part + ")", x.cost(part), want[part]);
        x.weigh(0, 2);
        x.weigh(1, 100);
        x.weigh(2, 1000);
        x.weigh(3, 7);
        int[] heavy = {18 + 300 + 1000 + 21, 18, 300, 1000, 21};
        for (int part = 0; part < 5; part++) due.is("10: cost(" + part + ")", x.cost(part), heavy[part]);
        int[] wrong = {-1, 5, LOW, HIGH};
        for (int part : wrong) due.is("10: cost(" + part + ")", x.cost(part), RANGE);
        x.put(4, 2);
        x.move(4, 11, 16, 70);
        for (int part = 0; part < 5; part++) due.is("10: sounding together", x.cost(part), STATE);
        x.move(4, 12, 16, 70);
        due.is("10: touching is not together", x.cost(2), 300);
        x.move(4, 3, 5, 70);
        due.is("10: within another", x.cost(0), STATE);
    }

    private static void costOfMost() {
        VoiceRows x = new VoiceRows();
        for (int i = 0; i < 4; i++) x.weigh(i, 1000);
        for (int v = 0; v < 4; v++) {
            x.put(x.note(0, 1, v), v);
            x.put(x.note(99999, 100000, 127 - v), v);
        }
        // The first ones cross in all six pairs; the last ones stand as their voices do.
        int leaps = 1000 * (127 + 125 + 123 + 121);
        int[] want = {leaps + 4 * 99998000 + 6000 + 4000, leaps, 4 * 99998000, 6000, 4000};
        for (int part = 0; part < 5; part++) due.is("10: the most, cost(" + part + ")", x.cost(part), want[part]);
    }

    private static void of() {
        VoiceRows x = sample();
        int[][] want = {{2, 6, 60, 0, 1, 2, 0}, {2, 6, 67, 2, 0, 3, 0}, {8, 10, 64, 0, 3, NONE, 0},
            {7, 12, 62, 2, 2, NONE, 0}, {14, 16, 70, NONE, 4, NONE, 0}};
        for (int i = 0; i < 5; i++) {
            for (int what = 0; what < 7; what++) due.is("11: of(" + i + ", " + what + ")", x.of(i, what), want[i][what]);
            due.is("11: what", x.of(i, -1), RANGE);
            due.is("11: what", x.of(i, 7), RANGE);
        }
        int[] wrong = {-1, 5, 60, LOW, HIGH};
        for (int note : wrong) due.is("11: of(" + note + ", 0)", x.of(note, 0), RANGE);
        due.is("11: of(0, LOW)", x.of(0, LOW), RANGE);
        due.is("11: of(0, HIGH)", x.of(0, HIGH), RANGE);
        x.put(2, 2);
        due.is("11: clashes of 2", x.of(2, 6), 1);
        due.is("11: clashes of 3", x.of(3, 6), 1);
        due.is("11: next of 3", x.of(3, 5), 2);
        due.is("11: next of 0", x.of(0, 5), NONE);
        x.put(1, 0);
        due.is("11: clashes with note 0", x.of(1, 6), 1);
        x.move(1, 6, 9, 60);
        due.is("11: touching is no clash", x.of(1, 6), 0);
        due.is("11: touching is no clash", x.of(0, 6), 0);
        x.put(0, NONE);
        x.put(1, NONE);
        due.is("11: without a voice none clashes", x.of(0, 6), 0);
        due.is("11: without a voice none is next", x.of(1, 5), NONE);
        due.is("11: a note between, without a voice", x.of(4, 5), NONE);
    }

    private static void ranked() {
        VoiceRows x = sample();
        int[] row = {1, 0, 3, 2, 4};
        for (int i = 0; i < 5; i++) due.is("12: ranked(" + i + ")", x.ranked(i), row[i]);
        int[] wrong = {-1, 5, 60, LOW, HIGH};
        for (int rank : wrong) due.is("12: ranked(" + rank + ")", x.ranked(rank), RANGE);
    }

    private static void sounding() {
        VoiceRows x = sample();
        int[] want = {0, 0, 2, 2, 2, 2, 0, 1, 2, 2, 1, 1, 0, 0, 1, 1, 0};
        for (int t = 0; t < want.length; t++) due.is("13: sounding(" + t + ")", x.sounding(t), want[t]);
        x.note(99999, 100000, 1);
        due.is("13: sounding(99999)", x.sounding(99999), 1);
        due.is("13: sounding(100000)", x.sounding(100000), 0);
        int[] wrong = {-1, 100001, LOW, HIGH};
        for (int t : wrong) due.is("13: sounding(" + t + ")", x.sounding(t), RANGE);
    }

    private static void needed() {
        VoiceRows x = sample();
        due.is("14: needed()", x.needed(), 2);
        x.note(5, 8, 60);
        due.is("14: three at 5", x.needed(), 3);
        x.move(0, 5, 6, 1);
        due.is("14: three at 5", x.needed(), 3);
        x.move(0, 3, 6, 1);
        x.move(5, 3, 4, 1);
        due.is("14: three at 3", x.needed(), 3);
        due.is("14: a single note", single().needed(), 1);
        x.clear();
        for (int i = 0; i < 60; i++) x.note(i, 60, 60);
        due.is("14: more than there are", x.needed(), 60);
        for (int i = 0; i < 60; i++) x.move(i, i, i + 1, 60);
        due.is("14: each where the other ends", x.needed(), 1);
    }

    private static void rests() {
        VoiceRows x = sample();
        int[] want = {3, 1, 3, 1, 3};
        for (int v = 0; v < 5; v++) due.is("15: rests(" + v + ")", x.rests(v), want[v]);
        int[] wrong = {-1, 5, LOW, HIGH};
        for (int v : wrong) due.is("15: rests(" + v + ")", x.rests(v), RANGE);
        x.put(4, 0);
        due.is("15: none behind the last", x.rests(0), 3);
        x.move(0, 0, 8, 60);
        due.is("15: none before the first, none between", x.rests(0), 1);
        x.move(0, 0, 16, 60);
        due.is("15: notes within a note", x.rests(0), 0);
        due.is("15: none shared", x.rests(4), 0);
    }

    private static void manyRests() {
        VoiceRows x = new VoiceRows();
        for (int i = 0; i < 60; i++) x.put(x.note(2 * i + 1, 2 * i + 2, 60), 0);
        due.is("15: one before each", x.rests(0), 60);
        due.is("15: one before each", x.rests(4), 60);
        due.is("16: the last of them", x.rest(0, 59, 1), 119);
        x.put(59, NONE);
        due.is("15: the last one is longer", x.rests(0), 60);
        due.is("16: the last of them", x.rest(0, 59, 0), 118);
        due.is("16: the last of them", x.rest(4, 59, 1), 120);
        due.is("16: one more", x.rest(4, 60, 0), RANGE);
    }

    private static void rest() {
        VoiceRows x = sample();
        int[][] want = {{0, 2, 6, 8, 10, 16}, {0, 16}, {0, 2, 6, 7, 12, 16}, {0, 16}, {0, 2, 6, 7, 12, 16}};
        for (int v = 0; v < 5; v++) {
            int rows = want[v].length / 2;
            for (int i = 0; i < rows; i++) {
                due.is("16: rest(" + v + ", " + i + ", 0)", x.rest(v, i, 0), want[v][2 * i]);
                due.is("16: rest(" + v + ", " + i + ", 1)", x.rest(v, i, 1), want[v][2 * i + 1]);
            }
            int[][] wrong = {{v, rows, 0}, {v, -1, 1}, {v, LOW, 0}, {v, HIGH, 0}, {v, 0, -1}, {v, 0, 2}, {v, 0, LOW}, {v, 0, HIGH}};
            for (int[] w : wrong) due.is("16: wrong", x.rest(w[0], w[1], w[2]), RANGE);
        }
        due.is("16: voice -1", x.rest(-1, 0, 0), RANGE);
        due.is("16: voice 5", x.rest(5, 0, 0), RANGE);
        due.is("16: no rests", new VoiceRows().rest(4, 0, 0), RANGE);
    }

    /** Kinds side by side: a crossing, two that meet, two that meet even, and what is none of them. */
    private static VoiceRows couples() {
        VoiceRows x = new VoiceRows();
        int[][] notes = {{0, 4, 60, 1}, {0, 4, 60, 0}, {2, 6, 60, 3}, {3, 5, 65, 3}, {3, 5, 60, NONE}, {6, 8, 60, 0}, {6, 8, 65, 0}, {6, 8, 65, 2}};
        for (int[] n : notes) x.put(x.note(n[0], n[1], n[2]), n[3]);
        return x;
    }

    private static void pairs() {
        VoiceRows x = couples();
        due.is("17: crossings", x.pairs(0), 3);
        due.is("17: meetings", x.pairs(1), 4);
        due.is("17: even meetings", x.pairs(2), 2);
        x.put(4, 2);
        due.is("17: crossings", x.pairs(0), 4);
        due.is("17: meetings", x.pairs(1), 7);
        due.is("17: even meetings", x.pairs(2), 2);
        x.move(0, 0, 3, 60);
        due.is("17: the same FROM alone is not even", x.pairs(2), 1);
        x.move(0, 1, 4, 60);
        due.is("17: the same TO alone is not even", x.pairs(2), 1);
        int[] wrong = {-1, 3, LOW, HIGH};
        for (int kind : wrong) due.is("17: pairs(" + kind + ")", x.pairs(kind), RANGE);
        x.clear();
        for (int i = 0; i < 60; i++) x.put(x.note(0, 9, i), i / 15);
        due.is("17: all that can cross", x.pairs(0), 6 * 15 * 15);
    }

    private static void pair() {
        VoiceRows x = couples();
        int[][][] want = {{{0, 3}, {1, 3}, {7, 5}}, {{0, 1}, {0, 2}, {1, 2}, {6, 7}}, {{0, 1}, {6, 7}}};
        for (int kind = 0; kind < 3; kind++) {
            for (int i = 0; i < want[kind].length; i++) {
                for (int which = 0; which < 2; which++) {
                    due.is("18: pair(" + kind + ", " + i + ", " + which + ")", x.pair(kind, i, which), want[kind][i][which]);
                }
            }
        }
        int[][] wrong = {{-1, 0, 0}, {3, 0, 0}, {LOW, 0, 0}, {HIGH, 0, 0}, {1, -1, 0}, {1, 4, 0}, {1, LOW, 0}, {1, HIGH, 0}, {1, 0, -1},
            {1, 0, 2}, {1, 0, LOW}, {1, 0, HIGH}};
        for (int[] w : wrong) due.is("18: wrong", x.pair(w[0], w[1], w[2]), RANGE);
        due.is("18: no pairs", new VoiceRows().pair(0, 0, 0), RANGE);
    }

    private static void voice() {
        VoiceRows x = sample();
        int[][] want = {{60, 64, 2}, {NONE, NONE, 0}, {62, 67, 2}, {NONE, NONE, 0}};
        for (int v = 0; v < 4; v++) {
            for (int what = 0; what < 3; what++) due.is("19: voice(" + v + ", " + what + ")", x.voice(v, what), want[v][what]);
            due.is("19: what", x.voice(v, -1), RANGE);
            due.is("19: what", x.voice(v, 3), RANGE);
        }
        int[] wrong = {-1, 4, LOW, HIGH};
        for (int v : wrong) for (int what = 0; what < 3; what++) due.is("19: voice(" + v + ", " + what + ")", x.voice(v, what), RANGE);
        x.put(4, 3);
        x.move(4, 14, 16, 0);
        due.is("19: pitch 0", x.voice(3, 0), 0);
        due.is("19: pitch 0", x.voice(3, 1), 0);
        due.is("19: one note", x.voice(3, 2), 1);
        due.is("19: LOW", x.voice(0, LOW), RANGE);
        x.move(0, 2, 6, 65);
        due.is("19: note 0 is the highest", x.voice(0, 1), 65);
        due.is("19: note 0 is not the lowest", x.voice(0, 0), 64);
    }

    private static void told() {
        VoiceRows x = sample();
        int[] want = {5, 4, 16, 0, 2};
        for (int what = 0; what < 5; what++) due.is("20: told(" + what + ")", x.told(what), want[what]);
        x.put(4, 3);
        int[] all = {5, 5, 16, 1, 3};
        for (int what = 0; what < 5; what++) due.is("20: told(" + what + ")", x.told(what), all[what]);
        x.put(1, 0);
        due.is("20: two together in a voice", x.told(3), 0);
        due.is("20: voices", x.told(4), 3);
        x.move(4, 15, 100000, 1);
        due.is("20: the end", x.told(2), 100000);
        x.move(4, 15, 16, 1);
        x.move(0, 0, 17, 1);
        due.is("20: note 0 ends last", x.told(2), 17);
        VoiceRows y = single();
        due.is("20: note 0 has no voice", y.told(3), 0);
        y.put(0, 3);
        due.is("20: note 0 has one", y.told(3), 1);
        int[] wrong = {-1, 5, LOW, HIGH};
        for (int what : wrong) due.is("20: told(" + what + ")", x.told(what), RANGE);
    }

    private static void refusedChangesNothing() {
        VoiceRows x = sample();
        x.move(0, 5, 5, 1);
        x.move(0, 1, 3, 128);
        x.put(0, 4);
        x.weigh(0, 1001);
        x.note(3, 3, 3);
        x.find(1);
        x.find(5);
        x.along(1);
        x.along(0);
        VoiceRows y = sample();
        for (int i = 0; i < 5; i++) {
            for (int what = 0; what < 7; what++) due.is("refused: of(" + i + ", " + what + ")", x.of(i, what), y.of(i, what));
        }
        for (int what = 0; what < 5; what++) due.is("refused: told(" + what + ")", x.told(what), y.told(what));
        for (int i = 0; i < 4; i++) due.is("refused: weight " + i, x.weigh(i, 0), y.weigh(i, 0));
    }
}
