/** The voices of "Terms", their COST, FINDING and GOING ALONG: one method for each sentence that names a boundary. */
public final class TermsVoicesTest {
    private static final Due due = new Due("TermsVoicesTest");

    public static void main(String[] args) {
        Sentences.runAll(TermsVoicesTest.class, due);
    }

    static void voicesAre0To3() {
        due.sentence("VOICES are 0 .. 3");
        VoiceRows x = Rows.chain(1);
        for (int v = 0; v < 4; v++) {
            due.is("put(0, " + v + ")", x.put(0, v), v - 1);
            due.is("voice(" + v + ", 2)", x.voice(v, 2), 1);
        }
        due.is("put(0, 4)", x.put(0, 4), Rows.RANGE);
        due.is("put(0, -2)", x.put(0, -2), Rows.RANGE);
        due.is("voice(4, 2)", x.voice(4, 2), Rows.RANGE);
        due.is("voice(-1, 2)", x.voice(-1, 2), Rows.RANGE);
    }

    static void zeroIsTheHighest() {
        due.sentence("0 the highest");
        VoiceRows x = Rows.of(Rows.row(0, 1, 50), Rows.row(0, 1, 80), Rows.row(0, 1, 60), Rows.row(0, 1, 70));
        due.is("find(4)", x.find(4), 0);
        due.same("the voices", Rows.voices(x), "3021");
        due.is("along(4)", x.along(4), 1);
        due.same("the voices", Rows.voices(x), "3021");
    }

    static void noneAtFirst() {
        due.sentence("A VOICING gives NOTES a VOICE, or none (so at first)");
        VoiceRows x = Rows.chain(60);
        for (int i = 0; i < 60; i++) due.is("of(" + i + ", 3)", x.of(i, 3), Rows.NONE);
        due.is("told(1)", x.told(1), 0);
        due.is("told(4)", x.told(4), 0);
    }

    static void wholeIfEachNoteHasOne() {
        due.sentence("It is WHOLE if each NOTE has one");
        VoiceRows x = Rows.chain(60);
        due.is("none has one", x.told(3), 0);
        for (int i = 0; i < 59; i++) x.put(i, i % 4);
        due.is("one has none, the last", x.told(3), 0);
        x.put(59, 3);
        due.is("each has one", x.told(3), 1);
        int[] some = {0, 30, 59};
        for (int i : some) {
            int had = x.put(i, Rows.NONE);
            due.is("note " + i + " has none", x.told(3), 0);
            x.put(i, had);
            due.is("it has one again", x.told(3), 1);
        }
        due.is("a single note without one", Rows.chain(1).told(3), 0);
    }

    static void wholeWithoutNotes() {
        due.sentence("It is WHOLE if each NOTE has one (there is none)");
        VoiceRows x = new VoiceRows();
        due.is("told(3)", x.told(3), 1);
        due.same("the costs", Rows.costs(x), "0 0 0 0 0");
        x.weigh(3, 1000);
        due.same("the costs, with a weight", Rows.costs(x), "0 0 0 0 0");
    }

    static void noneTogetherInAVoice() {
        due.sentence("none SOUNDS TOGETHER with another of its VOICE");
        VoiceRows x = Rows.of(Rows.row(0, 4, 60, 3), Rows.row(4, 8, 60, 3));
        due.is("they touch", x.told(3), 1);
        x.move(0, 0, 5, 60);
        due.is("together for one step", x.told(3), 0);
        x.put(1, 2);
        due.is("of unlike voices", x.told(3), 1);
        VoiceRows y = Rows.of(Rows.row(0, 10, 60, 0), Rows.row(2, 3, 60, 1), Rows.row(9, 12, 60, 0));
        due.is("one of another voice between", y.told(3), 0);
        y.move(2, 10, 12, 60);
        due.is("and apart", y.told(3), 1);
        y.put(1, 0);
        due.is("one within another", y.told(3), 0);
        VoiceRows z = Rows.of(Rows.row(0, 1, 60, 0), Rows.row(0, 1, 60, 0));
        due.is("the same once more", z.told(3), 0);
    }

    static void howFarTheirPitchesAreApart() {
        due.sentence("LEAPS: .. how far their PITCHES are apart");
        VoiceRows x = Rows.of(Rows.row(0, 1, 60, 0), Rows.row(1, 2, 60, 0));
        due.is("none", x.cost(1), 0);
        x.move(1, 1, 2, 61);
        due.is("up", x.cost(1), 1);
        x.move(1, 1, 2, 59);
        due.is("down", x.cost(1), 1);
        x.move(0, 0, 1, 0);
        x.move(1, 1, 2, 127);
        due.is("the widest up", x.cost(1), 127);
        x.move(0, 0, 1, 127);
        x.move(1, 1, 2, 0);
        due.is("the widest down", x.cost(1), 127);
        due.is("of a single note", Rows.of(Rows.row(0, 1, 60, 0)).cost(1), 0);
    }

    static void oneBehindTheOther() {
        due.sentence("each two NOTES of a VOICE one behind the other (by ORDER, none of that VOICE between)");
        VoiceRows x = Rows.of(Rows.row(20, 21, 65, 0), Rows.row(5, 6, 90, 1), Rows.row(0, 1, 60, 0), Rows.row(10, 11, 70, 0), Rows.row(30, 31, 80, 1));
        due.is("leaps 10 and 5, and 10 of the other", x.cost(1), 25);
        due.is("gaps 9 and 9, and 24 of the other", x.cost(2), 42);
        x.put(1, 2);
        due.is("the other alone in its voice", x.cost(1), 15);
        due.is("the other alone in its voice", x.cost(2), 18);
    }

    static void leapsTimesWeight0() {
        due.sentence("LEAPS: .. times WEIGHT 0");
        VoiceRows x = new VoiceRows();
        for (int i = 0; i < 60; i++) x.put(x.note(i, i + 1, i % 2 == 0 ? 0 : 127), 0);
        Rows.weigh(x, 1000, 0, 0, 0);
        due.is("the most", x.cost(1), 59 * 127 * 1000);
        x.weigh(0, 0);
        due.is("with weight 0", x.cost(1), 0);
        Rows.weigh(x, 3, 1000, 1000, 1000);
        due.is("by this weight alone", x.cost(1), 59 * 127 * 3);
    }

    static void fromOfTheLaterLessToOfTheEarlier() {
        due.sentence("GAPS: .. the FROM of the later less the TO of the earlier");
        VoiceRows x = Rows.of(Rows.row(100, 110, 60, 0), Rows.row(110, 120, 60, 0), Rows.row(500, 900, 60, 1));
        due.is("they touch; nothing before the first, nothing behind the last", x.cost(2), 0);
        x.move(1, 111, 120, 60);
        due.is("one step", x.cost(2), 1);
        x.move(0, 0, 1, 60);
        x.move(1, 99999, 100000, 60);
        due.is("the widest", x.cost(2), 99998);
        due.is("of a single note", Rows.of(Rows.row(7, 8, 60, 0)).cost(2), 0);
    }

    static void gapsTimesWeight1() {
        due.sentence("GAPS: .. times WEIGHT 1");
        VoiceRows x = new VoiceRows();
        for (int v = 0; v < 4; v++) Rows.add(x, Rows.row(0, 1, 60, v), Rows.row(99999, 100000, 60, v));
        Rows.weigh(x, 0, 1000, 0, 0);
        due.is("the most", x.cost(2), 4 * 99998 * 1000);
        due.is("the most, in all", x.cost(0), 4 * 99998 * 1000);
        x.weigh(1, 0);
        due.is("with weight 0", x.cost(2), 0);
        Rows.weigh(x, 1000, 2, 1000, 1000);
        due.is("by this weight alone", x.cost(2), 4 * 99998 * 2);
    }

    static void crossingsOfThoseThatSoundTogether() {
        due.sentence("CROSSINGS: for each two NOTES that SOUND TOGETHER");
        VoiceRows x = Rows.of(Rows.row(0, 4, 60, 0), Rows.row(4, 8, 70, 1));
        due.is("they touch", x.cost(3), 0);
        x.move(1, 3, 8, 70);
        due.is("together for one step", x.cost(3), 12);
        x.move(1, 0, 1, 70);
        due.is("together at the other end", x.cost(3), 12);
    }

    static void lesserNumberHasTheLowerPitch() {
        due.sentence("that of the VOICE with the lesser number has the lower PITCH");
        VoiceRows x = Rows.of(Rows.row(0, 4, 60, 0), Rows.row(0, 4, 60, 1));
        due.is("the same PITCH", x.cost(3), 0);
        x.move(1, 0, 4, 59);
        due.is("as the voices stand", x.cost(3), 0);
        x.move(1, 0, 4, 61);
        due.is("crossed by one", x.cost(3), 12);
        x.put(0, 3);
        due.is("voices changed", x.cost(3), 0);
        x.put(1, 2);
        x.move(1, 0, 4, 59);
        due.is("of voices 2 and 3", x.cost(3), 12);
        x.move(1, 1, 4, 59);
        due.is("the lower begins later", x.cost(3), 12);
        x.move(0, 2, 4, 60);
        due.is("the lower begins earlier", x.cost(3), 12);
        x.put(1, 3);
        x.put(0, 2);
        due.is("as the voices stand, the lower earlier", x.cost(3), 0);
    }

    static void crossingsEachWeight2() {
        due.sentence("CROSSINGS: for each two NOTES ..: WEIGHT 2");
        VoiceRows x = new VoiceRows();
        for (int v = 0; v < 4; v++) x.put(x.note(0, 1, 60 + v), v);
        due.is("all six pairs", x.cost(3), 6 * 12);
        x.weigh(2, 1000);
        due.is("the heaviest", x.cost(3), 6000);
        x.weigh(2, 0);
        due.is("with weight 0", x.cost(3), 0);
        Rows.weigh(x, 1000, 1000, 5, 1000);
        due.is("by this weight alone", x.cost(3), 30);
    }

    static void usedForEachVoiceThatHasANote() {
        due.sentence("USED: for each VOICE that has a NOTE: WEIGHT 3");
        VoiceRows x = Rows.chain(8);
        x.weigh(3, 1000);
        for (int i = 0; i < 8; i++) x.put(i, 3);
        due.is("one with eight", x.cost(4), 1000);
        for (int v = 0; v < 3; v++) {
            x.put(v, v);
            due.is("voices " + (v + 2), x.cost(4), 1000 * (v + 2));
        }
        x.put(0, 1);
        due.is("voice 0 has none now", x.cost(4), 3000);
        Rows.weigh(x, 1000, 1000, 1000, 0);
        due.is("with weight 0", x.cost(4), 0);
    }

    static void weightsAre0To1000() {
        due.sentence("WEIGHTS are 0 .. 1000");
        VoiceRows x = new VoiceRows();
        for (int i = 0; i < 4; i++) {
            due.is("weigh(" + i + ", 1001)", x.weigh(i, 1001), Rows.RANGE);
            due.is("weigh(" + i + ", -1)", x.weigh(i, -1), Rows.RANGE);
            due.is("weigh(" + i + ", 1000) is not refused", x.weigh(i, 1000) >= 0 ? 1 : 0, 1);
            due.is("weigh(" + i + ", 0)", x.weigh(i, 0), 1000);
            due.is("weigh(" + i + ", 5)", x.weigh(i, 5), 0);
        }
    }

    static void weightsAtFirst() {
        due.sentence("at first 1 1 12 0");
        due.same("the weights", Rows.weights(new VoiceRows()), "1 1 12 0");
        VoiceRows x = Rows.of(Rows.row(0, 4, 60, 0), Rows.row(0, 4, 61, 1), Rows.row(7, 8, 65, 0));
        due.same("the costs", Rows.costs(x), "20 5 3 12 0");
    }

    static void findingWithVoicesBelowN() {
        due.sentence("FINDING with n VOICES (0 .. n - 1)");
        for (int n = 1; n <= 4; n++) {
            VoiceRows x = new VoiceRows();
            for (int i = 0; i < 4; i++) x.note(10 * i, 10 * i + 10, 40 * i);
            due.is("find(" + n + "): a new voice is free", x.find(n), 40 * (4 - n));
            due.is("find(" + n + "), voices", x.told(4), n);
            for (int v = 0; v < 4; v++) due.is("find(" + n + "), notes of voice " + v, x.voice(v, 2) > 0 ? 1 : 0, v < n ? 1 : 0);
        }
    }

    static void theLeastCost() {
        due.sentence("the WHOLE VOICING with the least COST");
        VoiceRows x = Rows.of(Rows.row(0, 1, 60), Rows.row(1, 2, 70));
        x.weigh(3, 9);
        due.is("a voice for 9, not a leap of 10", x.find(4), 18);
        x.weigh(3, 11);
        due.is("a leap of 10, not a voice for 11", x.find(4), 21);
        // A first step that is dearer, for one that comes later.
        VoiceRows y = Rows.of(Rows.row(0, 2, 60), Rows.row(2, 4, 72), Rows.row(2, 4, 60));
        due.is("the lower voice at once, for what comes", y.find(2), 0);
        due.same("the voices", Rows.voices(y), "101");
        y.weigh(3, 1000);
        due.is("two are needed", y.find(4), 2000);
    }

    static void theLeastCostWithTheHeaviestWeights() {
        due.sentence("the WHOLE VOICING with the least COST, if that is as great as can be");
        VoiceRows x = new VoiceRows();
        Rows.weigh(x, 1000, 1000, 1000, 1000);
        for (int v = 0; v < 4; v++) Rows.add(x, Rows.row(0, 1, 127), Rows.row(99999, 100000, 0));
        due.is("find(4)", x.find(4), 4 * (127 + 99998 + 1) * 1000);
        due.same("the voices", Rows.voices(x), "00112233");
        due.is("cost(0)", x.cost(0), 4 * (127 + 99998 + 1) * 1000);
    }

    static void lesserVoiceAtTheFirstNoteByOrder() {
        due.sentence("of several the one that gives, at the first NOTE by ORDER at which they differ, the lesser VOICE");
        VoiceRows x = Rows.of(Rows.row(5, 9, 60), Rows.row(0, 9, 60), Rows.row(4, 9, 60), Rows.row(2, 9, 60));
        due.is("all alike", x.find(4), 0);
        due.same("by ORDER, not by number", Rows.voices(x), "3021");
        VoiceRows y = Rows.chain(14);
        due.is("one behind the other", y.find(4), 0);
        due.same("all in voice 0", Rows.voices(y), "00000000000000");
        VoiceRows z = Rows.of(Rows.row(0, 1, 60), Rows.row(1, 2, 70));
        z.weigh(3, 10);
        due.is("a leap of 10 or a voice for 10", z.find(2), 20);
        due.same("the lesser", Rows.voices(z), "00");
        // 0 1 0 and 0 1 1 are alike (a leap of 5 either way), and so are 1 0 0 and 1 0 1.
        VoiceRows w = Rows.of(Rows.row(0, 2, 60), Rows.row(0, 2, 50), Rows.row(2, 3, 55));
        Rows.weigh(w, 1, 0, 0, 0);
        due.is("find(2)", w.find(2), 5);
        due.same("the voices", Rows.voices(w), "010");
    }

    static void alongByOrder() {
        due.sentence("GOING ALONG with n VOICES: NOTES by ORDER");
        VoiceRows x = Rows.of(Rows.row(2, 4, 60), Rows.row(0, 2, 90), Rows.row(2, 4, 90));
        due.is("along(2)", x.along(2), 1);
        due.same("the voices", Rows.voices(x), "100");
        VoiceRows y = Rows.of(Rows.row(0, 2, 50), Rows.row(0, 2, 60));
        due.is("along(4)", y.along(4), 1);
        due.same("the higher first", Rows.voices(y), "10");
    }

    static void alongNoneThatSoundsTogetherIsYet() {
        due.sentence("each gets that of the n VOICES in which no NOTE that SOUNDS TOGETHER with it is yet");
        VoiceRows x = Rows.of(Rows.row(0, 10, 60), Rows.row(9, 12, 60), Rows.row(10, 11, 60), Rows.row(11, 13, 60));
        due.is("along(2)", x.along(2), 1);
        due.same("where one ends the next begins", Rows.voices(x), "0100");
        due.is("the second begins one step too early", x.along(1), Rows.NONE);
        VoiceRows early = Rows.of(Rows.row(0, 10, 60), Rows.row(9, 12, 60));
        due.is("one step too early for one voice", early.along(1), Rows.NONE);
        Rows.weigh(early, 0, 0, 0, 0);
        due.is("one step too early, whatever the weights", early.along(1), Rows.NONE);
        early.along(4);
        due.same("so it gets another, though that is new", Rows.voices(early), "01");
        x.move(2, 9, 11, 60);
        due.is("three at 9", x.along(2), Rows.NONE);
        due.is("along(3)", x.along(3), 1);
        due.same("the third, and behind it without a gap", Rows.voices(x), "0122");
    }

    static void alongWithVoicesBelowN() {
        due.sentence("GOING ALONG with n VOICES: .. that of the n VOICES");
        for (int n = 1; n <= 4; n++) {
            VoiceRows x = new VoiceRows();
            for (int i = 0; i < 4; i++) x.note(10 * i, 10 * i + 10, 40 * i);
            due.is("along(" + n + ")", x.along(n), 1);
            due.same("along(" + n + "), a new voice is free", Rows.voices(x), "0123".substring(0, n) + ("" + (n - 1)).repeat(4 - n));
        }
    }

    static void alongAsIfThereWereNoOthers() {
        due.sentence("the COST of the NOTES given so far (as if there were no others) is least");
        VoiceRows x = Rows.of(Rows.row(0, 2, 60, 3), Rows.row(2, 4, 72, 1), Rows.row(2, 4, 60, 0));
        due.is("along(2)", x.along(2), 1);
        due.same("neither what comes nor what was counts", Rows.voices(x), "010");
        due.is("along(2) once more", x.along(2), 1);
        due.same("the same", Rows.voices(x), "010");
        x.weigh(3, 12);
        due.is("a voice costs as much as the leap", x.along(2), 1);
        due.same("the leap", Rows.voices(x), "001");
    }

    static void alongEachPartOfTheCost() {
        due.sentence("by which the COST of the NOTES given so far .. is least");
        VoiceRows x = Rows.of(Rows.row(0, 4, 60), Rows.row(2, 3, 50), Rows.row(5, 6, 52));
        due.is("along(2)", x.along(2), 1);
        due.same("leap 2 and gap 2, not leap 8 and gap 1", Rows.voices(x), "011");
        Rows.weigh(x, 0, 1, 0, 0);
        x.along(2);
        due.same("by the gap", Rows.voices(x), "010");
        x.move(1, 2, 5, 50);
        x.along(2);
        due.same("by the gap, of the other voice", Rows.voices(x), "011");
        x.move(2, 5, 6, 58);
        Rows.weigh(x, 1, 0, 0, 0);
        x.along(2);
        due.same("by the leap", Rows.voices(x), "010");
        x.move(2, 5, 6, 52);
        x.along(2);
        due.same("by the leap, of the other voice", Rows.voices(x), "011");
        Rows.weigh(x, 1, 0, 0, 1);
        x.along(3);
        due.same("a third voice for 1, not a leap of 2", Rows.voices(x), "012");
        Rows.weigh(x, 1, 0, 0, 3);
        x.along(3);
        due.same("a leap of 2, not a third voice for 3", Rows.voices(x), "011");
        VoiceRows y = Rows.of(Rows.row(0, 9, 60), Rows.row(1, 2, 50), Rows.row(1, 9, 40), Rows.row(3, 4, 50), Rows.row(6, 7, 30));
        Rows.weigh(y, 0, 0, 1, 0);
        y.along(4);
        due.same("by the crossings", Rows.voices(y), "01213");
        Rows.weigh(y, 0, 0, 0, 1);
        y.along(4);
        due.same("by the voices", Rows.voices(y), "01211");
    }

    static void alongOfSeveralTheLesser() {
        due.sentence("GOING ALONG ..: of several the lesser");
        VoiceRows x = Rows.chain(60);
        due.is("along(4)", x.along(4), 1);
        for (int i = 0; i < 60; i++) due.is("of(" + i + ", 3)", x.of(i, 3), 0);
        VoiceRows y = Rows.of(Rows.row(0, 2, 60), Rows.row(0, 2, 50), Rows.row(2, 3, 55));
        due.is("a leap of 5 either way", y.along(2), 1);
        due.same("the lesser", Rows.voices(y), "010");
        y.weigh(3, 5);
        due.is("a third voice for 5", y.along(4), 1);
        due.same("the lesser", Rows.voices(y), "010");
    }

    static void alongIsGivenUp() {
        due.sentence("if there is none, it is given up");
        VoiceRows x = new VoiceRows();
        for (int v = 0; v < 4; v++) x.note(0, 9, 60);
        for (int n = 1; n < 4; n++) due.is("four at once, along(" + n + ")", x.along(n), Rows.NONE);
        due.is("four at once, along(4)", x.along(4), 1);
        x.note(8, 9, 60);
        for (int n = 1; n <= 4; n++) due.is("five at once, along(" + n + ")", x.along(n), Rows.NONE);
        due.is("the one at which it was given up has none", x.of(4, 3), Rows.NONE);
        x.move(4, 9, 10, 60);
        due.is("the fifth behind", x.along(4), 1);
    }
}
