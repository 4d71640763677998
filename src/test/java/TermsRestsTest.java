import java.util.Arrays;

/** The rests, the meetings and the refusals of "Terms": one method for each sentence that names a boundary. */
public final class TermsRestsTest {
    private static final Due due = new Due("TermsRestsTest");

    public static void main(String[] args) {
        Sentences.runAll(TermsRestsTest.class, due);
    }

    static void allTimesFrom0() {
        due.sentence("RESTS of a VOICE: all times from 0");
        VoiceRows x = Rows.of(Rows.row(0, 4, 60, 0), Rows.row(1, 4, 60, 1), Rows.row(4, 5, 60, 0), Rows.row(4, 5, 60, 1));
        due.same("one that begins at 0", Rows.rests(x, 0), "");
        due.same("one that begins at 1", Rows.rests(x, 1), "0-1");
        due.same("a voice without notes", Rows.rests(x, 2), "0-5");
        VoiceRows y = Rows.of(Rows.row(3, 5, 60, 0), Rows.row(4, 5, 60, 1));
        due.same("no note begins at 0, voice 0", Rows.rests(y, 0), "0-3");
        due.same("no note begins at 0, voice 1", Rows.rests(y, 1), "0-4");
    }

    static void toTheEnd() {
        due.sentence("RESTS of a VOICE: all times .. to THE END");
        VoiceRows x = Rows.of(Rows.row(0, 5, 60, 0), Rows.row(0, 4, 60, 1), Rows.row(0, 1, 60, 2));
        due.same("one that ends at THE END", Rows.rests(x, 0), "");
        due.same("one that ends one step before", Rows.rests(x, 1), "4-5");
        due.same("one that ends earlier", Rows.rests(x, 2), "1-5");
        x.put(0, Rows.NONE);
        due.same("THE END is that of a note without a voice", Rows.rests(x, 1), "4-5");
        x.move(0, 99999, 100000, 60);
        due.same("up to the last time", Rows.rests(x, 1), "4-100000");
        due.same("up to the last time, without notes", Rows.rests(x, 3), "0-100000");
    }

    static void noneOfItsNotesSounds() {
        due.sentence("in which none of its NOTES sounds");
        VoiceRows x = Rows.of(Rows.row(2, 4, 60, 0), Rows.row(5, 7, 60, 0), Rows.row(3, 6, 60, 1), Rows.row(8, 9, 60));
        due.same("voice 0", Rows.rests(x, 0), "0-2 4-5 7-9");
        due.same("voice 1", Rows.rests(x, 1), "0-3 6-9");
        x.put(2, 0);
        due.same("two of one voice together", Rows.rests(x, 0), "0-2 7-9");
        x.move(2, 2, 9, 60);
        due.same("one around the others", Rows.rests(x, 0), "0-2");
        x.move(2, 3, 4, 60);
        due.same("one within another", Rows.rests(x, 0), "0-2 4-5 7-9");
    }

    static void rowsWithoutABreak() {
        due.sentence("as rows without a break");
        VoiceRows x = Rows.of(Rows.row(2, 4, 60, 0), Rows.row(4, 6, 60, 0), Rows.row(8, 9, 60, 1), Rows.row(8, 12, 60), Rows.row(10, 11, 60, 2));
        due.same("two that touch, and others that sound", Rows.rests(x, 0), "0-2 6-12");
        due.is("rests(0)", x.rests(0), 2);
        due.same("no rest without a length", Rows.rests(x, 3), "0-12");
        x.move(1, 5, 6, 60);
        due.same("a rest of one step", Rows.rests(x, 0), "0-2 4-5 6-12");
    }

    static void fromTheFirstOn() {
        due.sentence("RESTS ..: from the first on");
        VoiceRows x = Rows.of(Rows.row(20, 21, 60, 0), Rows.row(10, 11, 60, 0), Rows.row(30, 31, 60, 0), Rows.row(5, 6, 60, 0));
        due.same("by time, not by number", Rows.rests(x, 0), "0-5 6-10 11-20 21-30");
        x.move(2, 1, 2, 60);
        due.same("after a move", Rows.rests(x, 0), "0-1 2-5 6-10 11-20");
    }

    static void mostRests() {
        due.sentence("RESTS of a VOICE, with 60 NOTES");
        VoiceRows x = new VoiceRows();
        for (int i = 0; i < 60; i++) x.put(x.note(2 * i + 1, 2 * i + 2, 60), 3);
        due.is("one before each", x.rests(3), 60);
        due.is("the last begins", x.rest(3, 59, 0), 118);
        due.is("the last ends", x.rest(3, 59, 1), 119);
        due.is("no more", x.rest(3, 60, 0), Rows.RANGE);
        x.move(59, 0, 120, 60);
        x.put(59, 0);
        due.is("one before each, one behind", x.rests(3), 60);
        due.is("the one behind begins", x.rest(3, 59, 0), 118);
        due.is("the one behind ends", x.rest(3, 59, 1), 120);
    }

    static void restsWithoutNotes() {
        due.sentence("RESTS: .. from 0 to THE END (which is 0)");
        VoiceRows x = new VoiceRows();
        for (int v = 0; v < 5; v++) {
            due.is("rests(" + v + ")", x.rests(v), 0);
            due.is("rest(" + v + ", 0, 0)", x.rest(v, 0, 0), Rows.RANGE);
        }
    }

    static void shared() {
        due.sentence("SHARED: likewise, in which no NOTE that has a VOICE sounds");
        VoiceRows x = Rows.of(Rows.row(2, 4, 60, 0), Rows.row(4, 6, 60, 3), Rows.row(0, 9, 60), Rows.row(7, 8, 60, 2), Rows.row(5, 6, 60, 1));
        due.same("a note without a voice does not count, THE END is its", Rows.rests(x, 4), "0-2 6-7 8-9");
        x.put(2, 1);
        due.same("now it has one", Rows.rests(x, 4), "");
        for (int i = 0; i < 5; i++) x.put(i, Rows.NONE);
        due.same("no note has one", Rows.rests(x, 4), "0-9");
    }

    static void meetingOfUnlikeVoices() {
        due.sentence("A MEETING: two NOTES of unlike VOICES");
        VoiceRows x = Rows.of(Rows.row(0, 4, 60, 0), Rows.row(0, 4, 60, 0));
        due.is("of one voice", x.pairs(1), 0);
        due.is("of one voice, even", x.pairs(2), 0);
        x.put(1, 3);
        due.is("of two", x.pairs(1), 1);
        x.put(0, Rows.NONE);
        due.is("one has none", x.pairs(1), 0);
        due.is("one has none, even", x.pairs(2), 0);
        x.put(1, Rows.NONE);
        x.put(0, 0);
        due.is("the other has none", x.pairs(1), 0);
    }

    static void meetingWithTheSamePitch() {
        due.sentence("A MEETING: .. with the same PITCH");
        VoiceRows x = Rows.of(Rows.row(0, 4, 60, 0), Rows.row(0, 4, 61, 1));
        due.is("one above", x.pairs(1), 0);
        x.move(1, 0, 4, 59);
        due.is("one below", x.pairs(1), 0);
        due.is("one below, even", x.pairs(2), 0);
        x.move(1, 0, 4, 60);
        due.is("the same", x.pairs(1), 1);
        due.is("the same does not cross", x.pairs(0), 0);
    }

    static void meetingThatSoundTogether() {
        due.sentence("A MEETING: .. that SOUND TOGETHER");
        VoiceRows x = Rows.of(Rows.row(0, 4, 60, 0), Rows.row(4, 8, 60, 1));
        due.is("they touch", x.pairs(1), 0);
        x.move(1, 3, 8, 60);
        due.is("for one step", x.pairs(1), 1);
        x.move(0, 7, 9, 60);
        due.is("at the other end", x.pairs(1), 1);
        x.move(0, 8, 9, 60);
        due.is("they touch at the other end", x.pairs(1), 0);
    }

    static void evenIfFromAndToAreTheSame() {
        due.sentence("EVEN, if FROM and TO are the same, too");
        VoiceRows x = Rows.of(Rows.row(2, 6, 60, 0), Rows.row(2, 6, 60, 1));
        due.is("both", x.pairs(2), 1);
        x.move(1, 2, 5, 60);
        due.is("FROM alone", x.pairs(2), 0);
        x.move(1, 3, 6, 60);
        due.is("TO alone", x.pairs(2), 0);
        x.move(1, 3, 5, 60);
        due.is("neither", x.pairs(2), 0);
        due.is("and yet they meet", x.pairs(1), 1);
    }

    static void toldByTheirRanks() {
        due.sentence("Two are told by their RANKS: by that of the first one, then of the other");
        // By ORDER: 3 2 1 0, all of one PITCH and all together
        VoiceRows x = Rows.of(Rows.row(3, 9, 60, 0), Rows.row(2, 9, 60, 1), Rows.row(1, 9, 60, 2), Rows.row(0, 9, 60, 3));
        due.same("meetings", Rows.pairs(x, 1), "3+2 3+1 3+0 2+1 2+0 1+0");
        for (int i = 0; i < 4; i++) x.move(i, 5, 9, 60);
        due.same("even meetings, by number now", Rows.pairs(x, 2), "0+1 0+2 0+3 1+2 1+3 2+3");
        for (int i = 0; i < 4; i++) x.move(i, 5, 9, 60 + i);
        due.same("crossings, the higher first", Rows.pairs(x, 0), "3+2 3+1 3+0 2+1 2+0 1+0");
        for (int i = 0; i < 4; i++) x.move(i, 5 + i, 9, 60 + i);
        due.same("crossings, the lower first", Rows.pairs(x, 0), "0+1 0+2 0+3 1+2 1+3 2+3");
    }

    static void refusalsAreBelowNone() {
        due.sentence("Refusals are below -1");
        due.is("NONE", VoiceRows.NONE, -1);
        due.is("RANGE", VoiceRows.RANGE, -2);
        due.is("STATE", VoiceRows.STATE, -3);
        due.is("FULL", VoiceRows.FULL, -4);
    }

    static void theFirstThatFits() {
        due.sentence("Refusals ..: the first that fits");
        VoiceRows x = Rows.chain(60);
        due.is("full, FROM at TO: RANGE before FULL", x.note(5, 5, 60), Rows.RANGE);
        due.is("full, no such PITCH: RANGE before FULL", x.note(5, 6, 128), Rows.RANGE);
        due.is("full, FROM too small: RANGE before FULL", x.note(-1, 6, 60), Rows.RANGE);
        due.is("full, TO too large: RANGE before FULL", x.note(5, 100001, 60), Rows.RANGE);
        due.is("full, all as told: FULL", x.note(5, 6, 60), Rows.FULL);
        int[] voices = {0, 5, -1, Rows.LOW, Rows.HIGH};
        for (int n : voices) {
            due.is("60 notes, find(" + n + "): RANGE before STATE", x.find(n), Rows.RANGE);
            due.is("60 notes, least(" + n + "): RANGE before STATE", x.least(n), Rows.RANGE);
        }
        int[] parts = {-1, 5, Rows.LOW, Rows.HIGH};
        for (int part : parts) due.is("not WHOLE, cost(" + part + "): RANGE before STATE", x.cost(part), Rows.RANGE);
        for (int part = 0; part < 5; part++) due.is("not WHOLE, cost(" + part + "): STATE", x.cost(part), Rows.STATE);
    }

    /** An object that has all: voices, rests, pairs of each kind, other weights, a note without a voice. */
    private static VoiceRows full() {
        VoiceRows x = Rows.of(Rows.row(2, 6, 60, 0), Rows.row(2, 6, 60, 1), Rows.row(3, 7, 70, 2), Rows.row(9, 12, 50));
        Rows.weigh(x, 2, 3, 4, 5);
        return x;
    }

    /** Rows of arguments of which just one is wrong; the others are 0, and so is the least that each may be. */
    private static int[][] wrongFor(int... highest) {
        int[][] wrong = new int[(2 + Rows.FAR.length) * highest.length][];
        int row = 0;
        for (int at = 0; at < highest.length; at++) {
            for (int i = -2; i < Rows.FAR.length; i++) {
                int[] args = new int[highest.length];
                args[at] = i == -2 ? -2 : i == -1 ? highest[at] + 1 : Rows.FAR[i];
                wrong[row++] = args;
            }
        }
        return wrong;
    }

    static void aNumberIsNotAsTold() {
        due.sentence("RANGE -2 a number is not as told");
        VoiceRows x = full();
        String before = Rows.all(x);
        for (int[] w : wrongFor(3, 3)) due.is("put" + Arrays.toString(w), x.put(w[0], w[1]), Rows.RANGE);
        for (int[] w : wrongFor(3, 1000)) due.is("weigh" + Arrays.toString(w), x.weigh(w[0], w[1]), Rows.RANGE);
        for (int[] w : wrongFor(3, 6)) due.is("of" + Arrays.toString(w), x.of(w[0], w[1]), Rows.RANGE);
        for (int[] w : wrongFor(3, 2)) due.is("voice" + Arrays.toString(w), x.voice(w[0], w[1]), Rows.RANGE);
        for (int[] w : wrongFor(4, 1, 1)) due.is("rest" + Arrays.toString(w), x.rest(w[0], w[1], w[2]), Rows.RANGE);
        for (int[] w : wrongFor(2, 1, 1)) due.is("pair" + Arrays.toString(w), x.pair(w[0], w[1], w[2]), Rows.RANGE);
        for (int[] w : wrongFor(4)) {
            due.is("find(" + w[0] + ")", x.find(w[0]), Rows.RANGE);
            due.is("least(" + w[0] + ")", x.least(w[0]), Rows.RANGE);
            due.is("along(" + w[0] + ")", x.along(w[0]), Rows.RANGE);
            due.is("cost(" + w[0] + ")", x.cost(w[0]), Rows.RANGE);
            due.is("told(" + w[0] + ")", x.told(w[0]), Rows.RANGE);
            due.is("rests(" + w[0] + ")", x.rests(w[0]), Rows.RANGE);
        }
        for (int[] w : wrongFor(3)) due.is("ranked(" + w[0] + ")", x.ranked(w[0]), Rows.RANGE);
        for (int[] w : wrongFor(2)) due.is("pairs(" + w[0] + ")", x.pairs(w[0]), Rows.RANGE);
        for (int time : new int[] {-1, 100001, Rows.LOW, Rows.HIGH}) due.is("sounding(" + time + ")", x.sounding(time), Rows.RANGE);
        due.same("all that it holds", Rows.all(x), before);
    }

    static void aNoteOutOfAllBounds() {
        due.sentence("RANGE -2 a number is not as told (FROM, TO, PITCH far outside)");
        VoiceRows x = full();
        String before = Rows.all(x);
        for (int far : Rows.FAR) {
            due.is("note(" + far + ", 5, 60)", x.note(far, 5, 60), Rows.RANGE);
            // 1 << 16 is a time, if a late one
            if (far != 1 << 16) due.is("note(5, " + far + ", 60)", x.note(5, far, 60), Rows.RANGE);
            due.is("note(5, 6, " + far + ")", x.note(5, 6, far), Rows.RANGE);
            due.is("move(" + far + ", 5, 6, 60)", x.move(far, 5, 6, 60), Rows.RANGE);
            due.is("move(0, " + far + ", 6, 60)", x.move(0, far, 6, 60), Rows.RANGE);
            if (far != 1 << 16) due.is("move(0, 5, " + far + ", 60)", x.move(0, 5, far, 60), Rows.RANGE);
            due.is("move(0, 5, 6, " + far + ")", x.move(0, 5, 6, far), Rows.RANGE);
        }
        due.is("note(LOW, HIGH, 60)", x.note(Rows.LOW, Rows.HIGH, 60), Rows.RANGE);
        due.is("note(HIGH, LOW, 60)", x.note(Rows.HIGH, Rows.LOW, 60), Rows.RANGE);
        due.same("all that it holds", Rows.all(x), before);
    }

    static void thereIsNoSuchThing() {
        due.sentence("RANGE -2 .. or there is no such thing");
        VoiceRows x = full();
        due.is("note 4: move", x.move(4, 0, 1, 60), Rows.RANGE);
        due.is("note 4: put", x.put(4, 0), Rows.RANGE);
        due.is("note 4: of", x.of(4, 0), Rows.RANGE);
        due.is("rank 4", x.ranked(4), Rows.RANGE);
        due.is("voice 0 has two rests", x.rests(0), 2);
        due.is("rest 2 of voice 0", x.rest(0, 2, 0), Rows.RANGE);
        due.is("there are two crossings", x.pairs(0), 2);
        due.is("crossing 2", x.pair(0, 2, 0), Rows.RANGE);
        due.is("there is one meeting", x.pairs(1), 1);
        due.is("meeting 1", x.pair(1, 1, 1), Rows.RANGE);
        due.is("there is one even meeting", x.pairs(2), 1);
        due.is("even meeting 1", x.pair(2, 1, 1), Rows.RANGE);
        x.clear();
        due.is("note 0, after clear()", x.of(0, 0), Rows.RANGE);
        due.is("rank 0, after clear()", x.ranked(0), Rows.RANGE);
        due.is("rest 0, after clear()", x.rest(0, 0, 0), Rows.RANGE);
        due.is("crossing 0, after clear()", x.pair(0, 0, 0), Rows.RANGE);
    }

    static void nothingThereToWrapAroundTo() {
        due.sentence("RANGE -2 .. there is no such thing (in an object without NOTES)");
        VoiceRows x = new VoiceRows();
        int[] numbers = {Rows.HIGH, Rows.HIGH - 1, Rows.LOW, Rows.LOW + 1, -1, 0, 1, 59, 60};
        for (int i : numbers) {
            due.is("of(" + i + ", 0)", x.of(i, 0), Rows.RANGE);
            due.is("put(" + i + ", 0)", x.put(i, 0), Rows.RANGE);
            due.is("move(" + i + ", 0, 1, 60)", x.move(i, 0, 1, 60), Rows.RANGE);
            due.is("ranked(" + i + ")", x.ranked(i), Rows.RANGE);
            due.is("rest(4, " + i + ", 0)", x.rest(4, i, 0), Rows.RANGE);
            due.is("pair(0, " + i + ", 0)", x.pair(0, i, 0), Rows.RANGE);
        }
    }

    static void whatIsRefusedChangesNothing() {
        due.sentence("What is refused changes nothing");
        VoiceRows x = full();
        String before = Rows.all(x);
        due.is("note", x.note(20, 20, 1), Rows.RANGE);
        due.is("note", x.note(0, 1, 128), Rows.RANGE);
        due.same("after note", Rows.all(x), before);
        due.is("move, TO", x.move(0, 30, 30, 1), Rows.RANGE);
        due.is("move, FROM", x.move(0, -1, 30, 1), Rows.RANGE);
        due.is("move, PITCH", x.move(0, 30, 31, 128), Rows.RANGE);
        due.same("after move", Rows.all(x), before);
        due.is("weigh", x.weigh(0, 1001), Rows.RANGE);
        due.is("weigh", x.weigh(3, -1), Rows.RANGE);
        due.same("after weigh", Rows.all(x), before);
        due.is("put", x.put(0, 4), Rows.RANGE);
        due.is("put", x.put(0, -2), Rows.RANGE);
        due.same("after put", Rows.all(x), before);
        due.is("find", x.find(5), Rows.RANGE);
        due.is("find", x.find(0), Rows.RANGE);
        due.same("after find", Rows.all(x), before);
        due.is("along", x.along(5), Rows.RANGE);
        due.is("along", x.along(0), Rows.RANGE);
        due.same("after along", Rows.all(x), before);
    }

    private static VoiceRows sixtyWithSomeVoices() {
        VoiceRows x = Rows.chain(60);
        for (int i = 0; i < 60; i += 2) x.put(i, i % 4);
        return x;
    }

    static void whatIsRefusedAsFullOrByStateChangesNothing() {
        due.sentence("What is refused (STATE, FULL) changes nothing");
        String before = Rows.all(sixtyWithSomeVoices());
        VoiceRows x = sixtyWithSomeVoices();
        due.is("note", x.note(0, 100000, 127), Rows.FULL);
        due.same("after note", Rows.all(x), before);
        VoiceRows y = sixtyWithSomeVoices();
        due.is("find", y.find(4), Rows.STATE);
        due.is("least", y.least(4), Rows.STATE);
        due.is("cost", y.cost(0), Rows.STATE);
        due.same("after find, least and cost", Rows.all(y), before);
    }
}
