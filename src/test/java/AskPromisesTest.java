/** Promises 11 to 20: one method for each sentence that names a boundary. */
public final class AskPromisesTest {
    private static final Due due = new Due("AskPromisesTest");
    private static final int[] OUTSIDE = {-1, -2, Rows.LOW, Rows.HIGH};

    public static void main(String[] args) {
        Sentences.runAll(AskPromisesTest.class, due);
    }

    /** All 60 at once and of one pitch, 15 in each voice. */
    private static VoiceRows crowd() {
        VoiceRows x = new VoiceRows();
        for (int i = 0; i < 60; i++) x.put(x.note(0, 9, 60), i / 15);
        return x;
    }

    static void p11FromToPitch() {
        due.sentence("11: what = 0 FROM, 1 TO, 2 PITCH");
        VoiceRows x = Rows.of(Rows.row(0, 100000, 127), Rows.row(99999, 100000, 0), Rows.row(0, 1, 5));
        int[][] want = {{0, 100000, 127}, {99999, 100000, 0}, {0, 1, 5}};
        for (int note = 0; note < 3; note++) {
            for (int what = 0; what < 3; what++) due.is("of(" + note + ", " + what + ")", x.of(note, what), want[note][what]);
        }
    }

    static void p11ItsVoice() {
        due.sentence("11: 3 its VOICE (NONE)");
        VoiceRows x = Rows.of(Rows.row(0, 1, 60, 0), Rows.row(1, 2, 60, 3), Rows.row(2, 3, 60));
        due.is("of(0, 3)", x.of(0, 3), 0);
        due.is("of(1, 3)", x.of(1, 3), 3);
        due.is("of(2, 3)", x.of(2, 3), Rows.NONE);
    }

    static void p11ItsRank() {
        due.sentence("11: 4 its RANK");
        VoiceRows x = new VoiceRows();
        for (int i = 0; i < 60; i++) x.note(100 - i, 200, 60);
        for (int i = 0; i < 60; i++) due.is("of(" + i + ", 4)", x.of(i, 4), 59 - i);
    }

    static void p11TheNextOfItsVoice() {
        due.sentence("11: 5 the NOTE of its VOICE that is next by ORDER");
        VoiceRows x = Rows.of(Rows.row(9, 10, 60, 0), Rows.row(3, 4, 60, 1), Rows.row(0, 5, 60, 0), Rows.row(2, 3, 60, 0), Rows.row(5, 6, 60));
        due.is("of(2, 5), though it sounds together", x.of(2, 5), 3);
        due.is("of(3, 5), those between are of no or another voice", x.of(3, 5), 0);
        VoiceRows y = Rows.of(Rows.row(0, 1, 60, 3), Rows.row(0, 1, 61, 3), Rows.row(0, 1, 60, 3));
        due.is("with one FROM the higher comes first", y.of(1, 5), 0);
        due.is("with one PITCH the lesser number", y.of(0, 5), 2);
    }

    static void p11NoneIsNext() {
        due.sentence("11: (NONE, also without a VOICE)");
        VoiceRows x = Rows.of(Rows.row(0, 1, 60, 0), Rows.row(1, 2, 60, 1), Rows.row(2, 3, 60), Rows.row(3, 4, 60));
        due.is("the last of voice 0", x.of(0, 5), Rows.NONE);
        due.is("the last of voice 1", x.of(1, 5), Rows.NONE);
        due.is("without a VOICE, one more without follows", x.of(2, 5), Rows.NONE);
        due.is("the last of all", x.of(3, 5), Rows.NONE);
        VoiceRows full = Rows.chain(60);
        full.along(1);
        due.is("of(58, 5) of 60", full.of(58, 5), 59);
        due.is("of(59, 5) of 60", full.of(59, 5), Rows.NONE);
    }

    static void p11WithHowManyOthers() {
        due.sentence("11: 6 with how many others of its VOICE it SOUNDS TOGETHER");
        VoiceRows x = Rows.of(Rows.row(0, 9, 60, 0), Rows.row(1, 2, 60, 0), Rows.row(8, 12, 60, 0), Rows.row(9, 10, 60, 0), Rows.row(0, 9, 60, 1),
            Rows.row(0, 9, 60));
        int[] want = {2, 1, 2, 1, 0, 0};
        for (int i = 0; i < 6; i++) due.is("of(" + i + ", 6)", x.of(i, 6), want[i]);
        VoiceRows all = crowd();
        due.is("15 at once", all.of(0, 6), 14);
        for (int i = 0; i < 60; i++) all.put(i, 3);
        due.is("60 at once", all.of(59, 6), 59);
    }

    static void p11WithNoneWithoutAVoice() {
        due.sentence("11: 6 with how many others of its VOICE (without a VOICE)");
        VoiceRows x = Rows.of(Rows.row(0, 9, 60), Rows.row(0, 9, 60));
        due.is("of(0, 6)", x.of(0, 6), 0);
        due.is("of(1, 6)", x.of(1, 6), 0);
    }

    static void p11Range() {
        due.sentence("11: RANGE");
        VoiceRows x = Rows.chain(2);
        for (int wrong : OUTSIDE) {
            due.is("of(" + wrong + ", 0)", x.of(wrong, 0), Rows.RANGE);
            due.is("of(0, " + wrong + ")", x.of(0, wrong), Rows.RANGE);
        }
        for (int what = -1; what < 8; what++) due.is("of(2, " + what + ")", x.of(2, what), Rows.RANGE);
        due.is("of(1, 7)", x.of(1, 7), Rows.RANGE);
        due.is("of(1, 6)", x.of(1, 6), 0);
        due.is("of(60, 0) of 60", Rows.chain(60).of(60, 0), Rows.RANGE);
        due.is("of(0, 0) of none", new VoiceRows().of(0, 0), Rows.RANGE);
    }

    static void p12WithARank() {
        due.sentence("12: The NOTE with a RANK");
        VoiceRows x = new VoiceRows();
        for (int i = 0; i < 60; i++) x.note(100 - i, 200, 60);
        for (int i = 0; i < 60; i++) due.is("ranked(" + i + ")", x.ranked(i), 59 - i);
    }

    static void p12Range() {
        due.sentence("12: RANGE");
        VoiceRows x = Rows.chain(2);
        for (int wrong : OUTSIDE) due.is("ranked(" + wrong + ")", x.ranked(wrong), Rows.RANGE);
        due.is("ranked(1) of 2", x.ranked(1), 1);
        due.is("ranked(2) of 2", x.ranked(2), Rows.RANGE);
        due.is("ranked(60) of 60", Rows.chain(60).ranked(60), Rows.RANGE);
        due.is("ranked(0) of none", new VoiceRows().ranked(0), Rows.RANGE);
        x.clear();
        due.is("ranked(0) after clear()", x.ranked(0), Rows.RANGE);
    }

    static void p13HowManySound() {
        due.sentence("13: How many NOTES sound at a time (0 .. 100000)");
        VoiceRows x = Rows.of(Rows.row(0, 100000, 60, 0), Rows.row(0, 1, 60), Rows.row(99999, 100000, 60, 0));
        due.is("sounding(0), with and without a VOICE", x.sounding(0), 2);
        due.is("sounding(1)", x.sounding(1), 1);
        due.is("sounding(99998)", x.sounding(99998), 1);
        due.is("sounding(99999)", x.sounding(99999), 2);
        due.is("sounding(100000)", x.sounding(100000), 0);
        due.is("60 at once", crowd().sounding(8), 60);
        due.is("behind THE END", crowd().sounding(9), 0);
        due.is("without notes", new VoiceRows().sounding(100000), 0);
    }

    static void p13Range() {
        due.sentence("13: RANGE");
        VoiceRows x = Rows.of(Rows.row(0, 100000, 60));
        for (int wrong : OUTSIDE) due.is("sounding(" + wrong + ")", x.sounding(wrong), Rows.RANGE);
        due.is("sounding(100001)", x.sounding(100001), Rows.RANGE);
        due.is("without notes", new VoiceRows().sounding(100001), Rows.RANGE);
    }

    static void p14HoweverMany() {
        due.sentence("14: The least number of VOICES (however many that is)");
        due.is("without notes", new VoiceRows().needed(), 0);
        due.is("a single note", Rows.chain(1).needed(), 1);
        due.is("60 that touch", Rows.chain(60).needed(), 1);
        due.is("60 at once", crowd().needed(), 60);
        VoiceRows x = Rows.chain(5);
        for (int i = 0; i < 5; i++) x.move(i, i, 100 - i, 60);
        due.is("one more than there are", x.needed(), 5);
    }

    static void p14CouldBeWhole() {
        due.sentence("14: by which all NOTES could be WHOLE");
        VoiceRows x = Rows.of(Rows.row(0, 4, 60), Rows.row(2, 6, 60), Rows.row(4, 8, 60), Rows.row(6, 9, 60));
        due.is("never more than two at once", x.needed(), 2);
        due.is("least(1)", x.least(1), Rows.NONE);
        due.holds("least(2) finds", x.least(2) >= 0);
        x.move(1, 2, 7, 60);
        due.is("three at 6", x.needed(), 3);
        due.is("least(2)", x.least(2), Rows.NONE);
        due.holds("least(3) finds", x.least(3) >= 0);
        x.put(0, 1);
        due.is("whatever VOICES they have", x.needed(), 3);
    }

    static void p15HowManyRests() {
        due.sentence("15: How many RESTS a VOICE has");
        VoiceRows x = Rows.of(Rows.row(0, 1, 60, 0), Rows.row(1, 2, 60, 3), Rows.row(2, 3, 60, 0));
        due.is("rests(0)", x.rests(0), 1);
        due.is("rests(1), no notes", x.rests(1), 1);
        due.is("rests(3)", x.rests(3), 2);
        x.put(1, 0);
        due.is("rests(0)", x.rests(0), 0);
    }

    static void p15SharedOnes() {
        due.sentence("15: SHARED ones, if voice is 4");
        VoiceRows x = Rows.of(Rows.row(0, 1, 60, 0), Rows.row(2, 3, 60, 3), Rows.row(4, 5, 60));
        due.is("rests(4)", x.rests(4), 2);
        x.move(2, 3, 9, 60);
        due.is("rests(4), without a VOICE it breaks none", x.rests(4), 2);
        x.move(2, 4, 5, 60);
        x.put(0, Rows.NONE);
        due.is("rests(4), as one row to the first with a VOICE", x.rests(4), 2);
        x.put(1, Rows.NONE);
        due.is("rests(4), no VOICE at all", x.rests(4), 1);
        x.put(0, 0);
        x.put(1, 3);
        x.put(2, 1);
        due.is("rests(4)", x.rests(4), 2);
        x.move(2, 1, 2, 60);
        due.is("none shared", x.rests(4), 0);
    }

    static void p15Range() {
        due.sentence("15: RANGE");
        VoiceRows x = Rows.chain(2);
        for (int wrong : OUTSIDE) due.is("rests(" + wrong + ")", x.rests(wrong), Rows.RANGE);
        due.is("rests(5)", x.rests(5), Rows.RANGE);
        due.is("without notes", new VoiceRows().rests(5), Rows.RANGE);
    }

    static void p16BeginsAndEnds() {
        due.sentence("16: where it begins (what = 0), ends (1)");
        VoiceRows x = Rows.of(Rows.row(1, 2, 60, 0), Rows.row(99999, 100000, 60, 1));
        int[][] want = {{0, 1}, {2, 100000}};
        for (int i = 0; i < 2; i++) {
            for (int what = 0; what < 2; what++) due.is("rest(0, " + i + ", " + what + ")", x.rest(0, i, what), want[i][what]);
        }
        due.is("rest(2, 0, 0)", x.rest(2, 0, 0), 0);
        due.is("rest(2, 0, 1)", x.rest(2, 0, 1), 100000);
    }

    static void p16Shared() {
        due.sentence("16: (4: SHARED)");
        VoiceRows x = Rows.of(Rows.row(1, 2, 60, 0), Rows.row(99999, 100000, 60, 1));
        due.same("rests of 4", Rows.rests(x, 4), "0-1 2-99999");
        due.is("rest(4, 2, 0)", x.rest(4, 2, 0), Rows.RANGE);
    }

    static void p16Range() {
        due.sentence("16: RANGE");
        VoiceRows x = Rows.of(Rows.row(1, 2, 60, 0), Rows.row(3, 4, 60, 1));
        for (int wrong : OUTSIDE) {
            due.is("rest(" + wrong + ", 0, 0)", x.rest(wrong, 0, 0), Rows.RANGE);
            due.is("rest(0, " + wrong + ", 0)", x.rest(0, wrong, 0), Rows.RANGE);
            due.is("rest(0, 0, " + wrong + ")", x.rest(0, 0, wrong), Rows.RANGE);
        }
        due.is("rest(5, 0, 0)", x.rest(5, 0, 0), Rows.RANGE);
        due.is("rest(0, 0, 2)", x.rest(0, 0, 2), Rows.RANGE);
        due.is("rest(0, 1, 1)", x.rest(0, 1, 1), 4);
        due.is("rest(0, 2, 1)", x.rest(0, 2, 1), Rows.RANGE);
        due.is("without notes", new VoiceRows().rest(4, 0, 0), Rows.RANGE);
        VoiceRows y = Rows.of(Rows.row(0, 2, 60, 0));
        due.is("a voice without rests", y.rest(0, 0, 0), Rows.RANGE);
    }

    static void p17OfNotesWithVoices() {
        due.sentence("17: How many pairs of NOTES with VOICES");
        VoiceRows x = Rows.of(Rows.row(0, 4, 60), Rows.row(0, 4, 60), Rows.row(0, 4, 70));
        for (int kind = 0; kind < 3; kind++) due.is("none has one, pairs(" + kind + ")", x.pairs(kind), 0);
        x.put(0, 0);
        for (int kind = 0; kind < 3; kind++) due.is("one has one, pairs(" + kind + ")", x.pairs(kind), 0);
        x.put(2, 3);
        due.is("one below has one, too: crossings", x.pairs(0), 1);
        x.put(1, 3);
        due.is("though not WHOLE: crossings", x.pairs(0), 1);
        due.is("though not WHOLE: meetings", x.pairs(1), 1);
        due.is("though not WHOLE: even", x.pairs(2), 1);
    }

    static void p17CrossMeetMeetEven() {
        due.sentence("17: cross (as in CROSSINGS; kind 0), MEET (1), MEET EVEN (2)");
        VoiceRows x = Rows.of(Rows.row(0, 4, 60, 0), Rows.row(0, 4, 60, 1), Rows.row(1, 4, 60, 2), Rows.row(0, 4, 61, 3));
        due.is("crossings", x.pairs(0), 3);
        due.is("meetings", x.pairs(1), 3);
        due.is("even meetings", x.pairs(2), 1);
        due.is("as in CROSSINGS", x.cost(3), 36);
        due.is("the most meetings", crowd().pairs(1), 6 * 15 * 15);
        due.is("the most even meetings", crowd().pairs(2), 6 * 15 * 15);
        for (int kind = 0; kind < 3; kind++) due.is("without notes, pairs(" + kind + ")", new VoiceRows().pairs(kind), 0);
    }

    static void p17Range() {
        due.sentence("17: RANGE");
        VoiceRows x = crowd();
        for (int wrong : OUTSIDE) due.is("pairs(" + wrong + ")", x.pairs(wrong), Rows.RANGE);
        due.is("pairs(3)", x.pairs(3), Rows.RANGE);
        due.is("without notes", new VoiceRows().pairs(3), Rows.RANGE);
    }

    static void p18TheOneAndTheOther() {
        due.sentence("18: the one NOTE (which = 0), the other (1)");
        VoiceRows x = crowd();
        due.is("the first pair", x.pair(1, 0, 0), 0);
        due.is("the first pair", x.pair(1, 0, 1), 15);
        due.is("the last pair", x.pair(1, 1349, 0), 44);
        due.is("the last pair", x.pair(1, 1349, 1), 59);
        due.is("the last even pair", x.pair(2, 1349, 1), 59);
        x.move(0, 0, 9, 59);
        due.is("the first crossing", x.pair(0, 0, 0), 15);
        due.is("the first crossing, note 0 is the last by ORDER", x.pair(0, 0, 1), 0);
        due.is("the last crossing", x.pair(0, 44, 0), 59);
    }

    static void p18Range() {
        due.sentence("18: RANGE");
        VoiceRows x = crowd();
        for (int wrong : OUTSIDE) {
            due.is("pair(" + wrong + ", 0, 0)", x.pair(wrong, 0, 0), Rows.RANGE);
            due.is("pair(1, " + wrong + ", 0)", x.pair(1, wrong, 0), Rows.RANGE);
            due.is("pair(1, 0, " + wrong + ")", x.pair(1, 0, wrong), Rows.RANGE);
        }
        due.is("pair(3, 0, 0)", x.pair(3, 0, 0), Rows.RANGE);
        due.is("pair(1, 0, 2)", x.pair(1, 0, 2), Rows.RANGE);
        due.is("pair(1, 1350, 0)", x.pair(1, 1350, 0), Rows.RANGE);
        due.is("pair(2, 1350, 1)", x.pair(2, 1350, 1), Rows.RANGE);
        due.is("none cross", x.pair(0, 0, 0), Rows.RANGE);
        due.is("without notes", new VoiceRows().pair(1, 0, 0), Rows.RANGE);
    }

    static void p19LowestHighest() {
        due.sentence("19: The lowest (what = 0), highest (1) PITCH of a VOICE");
        VoiceRows x = Rows.of(Rows.row(0, 1, 60, 0), Rows.row(1, 2, 0, 0), Rows.row(2, 3, 127, 0), Rows.row(3, 4, 127, 3), Rows.row(4, 5, 0, 2), Rows.row(5, 6, 1));
        due.is("voice(0, 0)", x.voice(0, 0), 0);
        due.is("voice(0, 1)", x.voice(0, 1), 127);
        due.is("voice(3, 0)", x.voice(3, 0), 127);
        due.is("voice(3, 1)", x.voice(3, 1), 127);
        due.is("voice(2, 0)", x.voice(2, 0), 0);
        due.is("voice(2, 1)", x.voice(2, 1), 0);
        int[][] pitches = {{50, 60, 70}, {70, 60, 50}, {60, 70, 50}, {60, 50, 70}};
        for (int[] p : pitches) {
            VoiceRows y = Rows.of(Rows.row(0, 1, p[0], 1), Rows.row(1, 2, p[1], 1), Rows.row(2, 3, p[2], 1));
            due.is("the lowest, wherever it stands", y.voice(1, 0), 50);
            due.is("the highest, wherever it stands", y.voice(1, 1), 70);
        }
    }

    static void p19NoneWithoutNotes() {
        due.sentence("19: NONE without NOTES");
        VoiceRows x = Rows.of(Rows.row(0, 1, 60, 2), Rows.row(1, 2, 60));
        for (int v = 0; v < 4; v++) {
            due.is("voice(" + v + ", 0)", x.voice(v, 0), v == 2 ? 60 : Rows.NONE);
            due.is("voice(" + v + ", 1)", x.voice(v, 1), v == 2 ? 60 : Rows.NONE);
        }
        x.put(0, Rows.NONE);
        due.is("it had one", x.voice(2, 0), Rows.NONE);
        due.is("in an object without any", new VoiceRows().voice(0, 1), Rows.NONE);
    }

    static void p19HowManyItHas() {
        due.sentence("19: how many NOTES it has (2)");
        VoiceRows x = crowd();
        for (int v = 0; v < 4; v++) due.is("voice(" + v + ", 2)", x.voice(v, 2), 15);
        for (int i = 0; i < 60; i++) x.put(i, 3);
        due.is("all of them", x.voice(3, 2), 60);
        due.is("none, not NONE", x.voice(0, 2), 0);
    }

    static void p19Range() {
        due.sentence("19: RANGE");
        VoiceRows x = crowd();
        for (int wrong : OUTSIDE) {
            for (int what = 0; what < 3; what++) due.is("voice(" + wrong + ", " + what + ")", x.voice(wrong, what), Rows.RANGE);
            due.is("voice(0, " + wrong + ")", x.voice(0, wrong), Rows.RANGE);
        }
        for (int what = 0; what < 3; what++) due.is("voice(4, " + what + ")", x.voice(4, what), Rows.RANGE);
        due.is("voice(0, 3)", x.voice(0, 3), Rows.RANGE);
        due.is("a voice without notes, voice(0, 3)", new VoiceRows().voice(0, 3), Rows.RANGE);
    }

    static void p20Notes() {
        due.sentence("20: 0 NOTES, 1 those with a VOICE");
        VoiceRows x = Rows.chain(60);
        due.is("told(0)", x.told(0), 60);
        due.is("told(1), none", x.told(1), 0);
        x.put(59, 0);
        due.is("told(1), one", x.told(1), 1);
        x.along(4);
        due.is("told(1), all", x.told(1), 60);
        due.is("told(0) of none", new VoiceRows().told(0), 0);
        due.is("told(1) of none", new VoiceRows().told(1), 0);
    }

    static void p20TheEnd() {
        due.sentence("20: 2 THE END");
        due.is("of none", new VoiceRows().told(2), 0);
        due.is("the least", Rows.chain(1).told(2), 1);
        due.is("the greatest", Rows.of(Rows.row(0, 100000, 60), Rows.row(1, 2, 60)).told(2), 100000);
    }

    static void p20WhetherWhole() {
        due.sentence("20: 3 whether the VOICING is WHOLE (1, 0)");
        VoiceRows x = Rows.chain(60);
        due.is("no", x.told(3), 0);
        x.along(1);
        due.is("yes", x.told(3), 1);
        x.move(59, 58, 59, 60);
        due.is("two together", x.told(3), 0);
        due.is("without notes", new VoiceRows().told(3), 1);
    }

    static void p20VoicesThatHaveANote() {
        due.sentence("20: 4 VOICES that have a NOTE");
        VoiceRows x = Rows.chain(4);
        for (int v = 0; v < 4; v++) {
            due.is("told(4)", x.told(4), v);
            x.put(v, 3 - v);
        }
        due.is("all", x.told(4), 4);
        for (int v = 0; v < 4; v++) x.put(v, 3);
        due.is("one", x.told(4), 1);
    }

    static void p20Range() {
        due.sentence("20: RANGE");
        VoiceRows x = Rows.chain(4);
        for (int wrong : OUTSIDE) due.is("told(" + wrong + ")", x.told(wrong), Rows.RANGE);
        due.is("told(5)", x.told(5), Rows.RANGE);
        due.is("without notes", new VoiceRows().told(5), Rows.RANGE);
    }
}
