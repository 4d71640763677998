/** "What it is" and the notes of "Terms": one method for each sentence that names a boundary. */
public final class TermsNotesTest {
    private static final Due due = new Due("TermsNotesTest");

    public static void main(String[] args) {
        Sentences.runAll(TermsNotesTest.class, due);
    }

    static void eachVoiceSoundsOneNoteAtATime() {
        due.sentence("each voice sounds one note at a time");
        VoiceRows x = new VoiceRows();
        for (int i = 0; i < 14; i++) x.note(2 * i, 2 * i + 7, 60 + i % 3);
        due.holds("find(4) finds", x.find(4) >= 0);
        for (int i = 0; i < 14; i++) due.is("after find(4), of(" + i + ", 6)", x.of(i, 6), 0);
        for (int i = 14; i < 60; i++) x.note(2 * i, 2 * i + 7, 60 + i % 3);
        due.is("along(4)", x.along(4), 1);
        for (int i = 0; i < 60; i++) due.is("after along(4), of(" + i + ", 6)", x.of(i, 6), 0);
    }

    static void exactlyForFewNotes() {
        due.sentence("exactly for few notes");
        VoiceRows x = Rows.of(Rows.row(0, 2, 60), Rows.row(2, 4, 72), Rows.row(2, 4, 60));
        due.is("find(2)", x.find(2), 0);
        due.same("the voices", Rows.voices(x), "101");
    }

    static void noteByNoteForMore() {
        due.sentence("note by note for more");
        VoiceRows x = Rows.of(Rows.row(0, 2, 60), Rows.row(2, 4, 72), Rows.row(2, 4, 60));
        due.is("along(2)", x.along(2), 1);
        due.same("the voices, unlike those of find(2)", Rows.voices(x), "010");
        due.is("its cost, more than that of find(2)", x.cost(0), 12);
        due.is("along(1) for 15", Rows.chain(15).along(1), 1);
        due.is("along(1) for 60", Rows.chain(60).along(1), 1);
    }

    static void atMost512Calls() {
        due.sentence("An object is used for at most 512 calls after it has been made");
        VoiceRows x = new VoiceRows();
        // Eight rounds of 64 calls: the last one is the 512th.
        for (int round = 0; round < 8; round++) {
            for (int i = 0; i < 60; i++) due.is("round " + round + ", note", x.note(i, i + 3, 60), i);
            due.is("round " + round + ", note", x.note(0, 1, 60), Rows.FULL);
            due.is("round " + round + ", along(3)", x.along(3), 1);
            due.is("round " + round + ", told(3)", x.told(3), 1);
            due.is("round " + round + ", clear()", x.clear(), 60);
        }
    }

    static void numbersFromZeroOn() {
        due.sentence("NOTES 0, 1, ..");
        VoiceRows x = new VoiceRows();
        due.is("the first", x.note(5, 6, 60), 0);
        due.is("one that is refused", x.note(5, 5, 60), Rows.RANGE);
        due.is("the second, though it comes before the first", x.note(3, 4, 60), 1);
        due.is("no note -1", x.of(-1, 0), Rows.RANGE);
        due.is("note 0", x.of(0, 0), 5);
        due.is("note 1", x.of(1, 0), 3);
        due.is("no note 2", x.of(2, 0), Rows.RANGE);
    }

    static void sixtyAtMost() {
        due.sentence("(60 at most)");
        VoiceRows x = Rows.chain(59);
        due.is("the 60th", x.note(70, 71, 60), 59);
        due.is("the 61st", x.note(80, 81, 60), Rows.FULL);
        due.is("the 61st once more", x.note(80, 81, 60), Rows.FULL);
        due.is("told(0)", x.told(0), 60);
        due.is("THE END", x.told(2), 71);
        due.is("the last", x.of(59, 0), 70);
        due.is("none behind it", x.of(60, 0), Rows.RANGE);
    }

    static void fromAndToFrom0() {
        due.sentence("a FROM and a TO (0 ..");
        VoiceRows x = new VoiceRows();
        due.is("note(-1, 1, 60)", x.note(-1, 1, 60), Rows.RANGE);
        due.is("note(-2, -1, 60)", x.note(-2, -1, 60), Rows.RANGE);
        due.is("note(-1, 0, 60)", x.note(-1, 0, 60), Rows.RANGE);
        due.is("note(0, 1, 60)", x.note(0, 1, 60), 0);
        due.is("move(0, -1, 1, 60)", x.move(0, -1, 1, 60), Rows.RANGE);
        due.is("move(0, 0, 2, 60)", x.move(0, 0, 2, 60), 1);
    }

    static void fromAndToUpTo100000() {
        due.sentence("a FROM and a TO (.. 100000)");
        VoiceRows x = new VoiceRows();
        due.is("note(0, 100001, 60)", x.note(0, 100001, 60), Rows.RANGE);
        due.is("note(99999, 100001, 60)", x.note(99999, 100001, 60), Rows.RANGE);
        due.is("note(100000, 100001, 60)", x.note(100000, 100001, 60), Rows.RANGE);
        due.is("note(100001, 100002, 60)", x.note(100001, 100002, 60), Rows.RANGE);
        due.is("note(0, 100000, 60)", x.note(0, 100000, 60), 0);
        due.is("note(99999, 100000, 60)", x.note(99999, 100000, 60), 1);
        due.is("its TO", x.of(1, 1), 100000);
        due.is("move(0, 99998, 100001, 60)", x.move(0, 99998, 100001, 60), Rows.RANGE);
        due.is("move(0, 99998, 100000, 60)", x.move(0, 99998, 100000, 60), 1);
    }

    static void fromBelowTo() {
        due.sentence("FROM below TO");
        VoiceRows x = new VoiceRows();
        int[] times = {0, 1, 7, 50000, 99999, 100000};
        for (int t : times) {
            due.is("note(" + t + ", " + t + ", 60)", x.note(t, t, 60), Rows.RANGE);
            if (t > 0) due.is("note(" + t + ", " + (t - 1) + ", 60)", x.note(t, t - 1, 60), Rows.RANGE);
        }
        due.is("note(100000, 0, 60)", x.note(100000, 0, 60), Rows.RANGE);
        due.is("note(7, 8, 60)", x.note(7, 8, 60), 0);
        due.is("move(0, 9, 9, 60)", x.move(0, 9, 9, 60), Rows.RANGE);
        due.is("move(0, 9, 8, 60)", x.move(0, 9, 8, 60), Rows.RANGE);
        due.is("move(0, 9, 10, 60)", x.move(0, 9, 10, 60), 1);
    }

    static void pitchFrom0To127() {
        due.sentence("a PITCH (0 .. 127)");
        VoiceRows x = new VoiceRows();
        due.is("note(0, 1, -1)", x.note(0, 1, -1), Rows.RANGE);
        due.is("note(0, 1, 128)", x.note(0, 1, 128), Rows.RANGE);
        due.is("note(0, 1, 0)", x.note(0, 1, 0), 0);
        due.is("note(0, 1, 127)", x.note(0, 1, 127), 1);
        due.is("of(0, 2)", x.of(0, 2), 0);
        due.is("of(1, 2)", x.of(1, 2), 127);
        due.is("move(0, 0, 1, -1)", x.move(0, 0, 1, -1), Rows.RANGE);
        due.is("move(0, 0, 1, 128)", x.move(0, 0, 1, 128), Rows.RANGE);
        due.is("move(0, 0, 1, 127)", x.move(0, 0, 1, 127), 1);
        due.is("move(1, 0, 1, 0)", x.move(1, 0, 1, 0), 1);
    }

    static void soundTogether() {
        due.sentence("Two SOUND TOGETHER if each one's FROM is below the other's TO");
        // FROM and TO of one, of the other, and whether they sound together
        int[][] cases = {{0, 4, 4, 8, 0}, {4, 8, 0, 4, 0}, {0, 4, 3, 8, 1}, {3, 8, 0, 4, 1}, {0, 4, 5, 8, 0}, {0, 9, 4, 5, 1},
            {4, 5, 0, 9, 1}, {2, 5, 2, 5, 1}, {2, 3, 2, 9, 1}, {2, 9, 8, 9, 1}, {0, 1, 99999, 100000, 0}, {0, 100000, 99999, 100000, 1}};
        for (int[] c : cases) {
            VoiceRows x = Rows.of(Rows.row(c[0], c[1], 60, 0), Rows.row(c[2], c[3], 61, 0));
            String two = c[0] + "-" + c[1] + " and " + c[2] + "-" + c[3];
            due.is(two + ", of(0, 6)", x.of(0, 6), c[4]);
            due.is(two + ", of(1, 6)", x.of(1, 6), c[4]);
            due.is(two + ", told(3)", x.told(3), 1 - c[4]);
            x.put(0, 1);
            x.put(1, 2);
            due.is(two + ", pairs(0)", x.pairs(0), c[4]);
            due.is(two + ", least(1) is NONE", x.least(1) == Rows.NONE ? 1 : 0, c[4]);
            due.is(two + ", along(1) is NONE", x.along(1) == Rows.NONE ? 1 : 0, c[4]);
        }
    }

    static void lesserFromFirst() {
        due.sentence("ORDER of NOTES: the lesser FROM first");
        VoiceRows x = Rows.of(Rows.row(9, 10, 127), Rows.row(8, 100, 0), Rows.row(0, 100000, 0), Rows.row(99999, 100000, 127));
        due.same("the order", Rows.order(x), "2 1 0 3");
        x.move(2, 10, 11, 127);
        due.same("the order", Rows.order(x), "1 0 2 3");
    }

    static void thenTheHigherPitch() {
        due.sentence("then the higher PITCH");
        VoiceRows x = Rows.of(Rows.row(5, 9, 0), Rows.row(5, 6, 127), Rows.row(5, 100, 126), Rows.row(4, 5, 0));
        due.same("the order", Rows.order(x), "3 1 2 0");
        x.move(0, 5, 6, 127);
        x.move(1, 5, 6, 125);
        due.same("the order", Rows.order(x), "3 0 2 1");
    }

    static void thenTheLesserNumber() {
        due.sentence("then the lesser number");
        VoiceRows x = Rows.of(Rows.row(5, 9, 60), Rows.row(5, 6, 60), Rows.row(5, 7, 60));
        due.same("the order", Rows.order(x), "0 1 2");
        x.move(0, 6, 7, 60);
        due.same("the order", Rows.order(x), "1 2 0");
        x.move(0, 5, 7, 60);
        due.same("the order, note 0 back", Rows.order(x), "0 1 2");
        x.move(2, 4, 9, 60);
        x.move(2, 5, 9, 60);
        due.same("the order, note 2 back", Rows.order(x), "0 1 2");
    }

    static void orderOfSixty() {
        due.sentence("ORDER of NOTES, of 60");
        VoiceRows x = new VoiceRows();
        for (int i = 0; i < 60; i++) x.note(59 - i, 60, 60);
        for (int i = 0; i < 60; i++) due.is("ranked(" + i + ")", x.ranked(i), 59 - i);
        x.move(0, 0, 1, 0);
        x.move(59, 99999, 100000, 0);
        due.is("moved to the front", x.of(0, 4), 0);
        due.is("moved to the end", x.of(59, 4), 59);
    }

    static void rankFromZeroOn() {
        due.sentence("RANK is a NOTE's place in it, from 0 on");
        VoiceRows x = Rows.of(Rows.row(5, 6, 60), Rows.row(1, 2, 60));
        due.is("of(1, 4)", x.of(1, 4), 0);
        due.is("of(0, 4)", x.of(0, 4), 1);
        due.is("ranked(0)", x.ranked(0), 1);
        due.is("ranked(1)", x.ranked(1), 0);
        due.is("of(0, 4) alone", Rows.chain(1).of(0, 4), 0);
        due.is("of(59, 4)", Rows.chain(60).of(59, 4), 59);
    }

    static void theEnd() {
        due.sentence("THE END is the greatest TO");
        VoiceRows x = Rows.of(Rows.row(0, 50, 60, 0), Rows.row(10, 20, 60, 1), Rows.row(12, 13, 60));
        due.is("of the first by ORDER", x.told(2), 50);
        x.move(1, 10, 60, 60);
        due.is("of the second", x.told(2), 60);
        x.move(2, 12, 100000, 60);
        due.is("of one without a voice", x.told(2), 100000);
        x.move(2, 12, 13, 60);
        due.is("when it is moved back", x.told(2), 60);
    }

    static void theEndWithoutNotes() {
        due.sentence("THE END is .. (0 without NOTES)");
        VoiceRows x = new VoiceRows();
        due.is("at first", x.told(2), 0);
        x.note(3, 9, 60);
        x.clear();
        due.is("after clear()", x.told(2), 0);
    }

    static void soundsUpToButNotAtItsTo() {
        due.sentence("A NOTE sounds from its FROM up to, but not at, its TO.");
        VoiceRows x = Rows.of(Rows.row(3, 5, 60));
        int[] want = {0, 0, 0, 1, 1, 0, 0};
        for (int time = 0; time < 7; time++) due.is("sounding(" + time + ")", x.sounding(time), want[time]);
        x.move(0, 0, 100000, 60);
        due.is("sounding(0)", x.sounding(0), 1);
        due.is("sounding(99999)", x.sounding(99999), 1);
        due.is("sounding(100000)", x.sounding(100000), 0);
    }
}
