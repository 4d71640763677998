/** Promises 7 to 10: one method for each sentence that names a boundary. */
public final class VoicingPromisesTest {
    private static final Due due = new Due("VoicingPromisesTest");

    public static void main(String[] args) {
        Sentences.runAll(VoicingPromisesTest.class, due);
    }

    /** As many notes at once, in voices that make none of them WHOLE. */
    private static VoiceRows atOnce(int notes) {
        VoiceRows x = new VoiceRows();
        for (int i = 0; i < notes; i++) x.put(x.note(i, 100, 60), i % 2 == 0 ? 3 : Rows.NONE);
        return x;
    }

    static void p7WithOneToFourVoices() {
        due.sentence("7: FINDING with n (1 .. 4) VOICES");
        VoiceRows x = Rows.chain(3);
        int[] wrong = {0, 5, -1, -4, Rows.LOW, Rows.HIGH};
        for (int n : wrong) due.is("find(" + n + ")", x.find(n), Rows.RANGE);
        due.same("no voice was given", Rows.voices(x), "---");
        for (int n = 1; n <= 4; n++) due.is("find(" + n + ")", x.find(n), 0);
        for (int n = 1; n <= 4; n++) {
            VoiceRows y = atOnce(n);
            if (n > 1) due.is(n + " at once, one voice less", y.find(n - 1), Rows.NONE);
            due.is(n + " at once", y.find(n), 0);
            due.is(n + " at once, voices", y.told(4), n);
        }
    }

    static void p7ItsCost() {
        due.sentence("7: its COST");
        VoiceRows x = Rows.of(Rows.row(0, 4, 60), Rows.row(2, 6, 67), Rows.row(7, 9, 50));
        Rows.weigh(x, 3, 5, 7, 11);
        for (int n = 2; n <= 4; n++) {
            int found = x.find(n);
            due.is("find(" + n + ")", found, x.cost(0));
            due.is("find(" + n + "), WHOLE", x.told(3), 1);
        }
        due.is("without notes", new VoiceRows().find(4), 0);
        VoiceRows one = Rows.chain(1);
        one.weigh(3, 1000);
        due.is("of a single note", one.find(1), 1000);
    }

    static void p7WhateverVoicesThereWere() {
        due.sentence("7: FINDING (whatever VOICES the NOTES had)");
        VoiceRows x = atOnce(4);
        VoiceRows y = Rows.of(Rows.row(0, 100, 60), Rows.row(1, 100, 60), Rows.row(2, 100, 60), Rows.row(3, 100, 60));
        due.is("find(4)", x.find(4), y.find(4));
        due.same("all that they hold", Rows.all(x), Rows.all(y));
        due.is("find(4) again", x.find(4), 0);
        due.same("all that they hold", Rows.all(x), Rows.all(y));
    }

    static void p7NoneThereIsNoWholeVoicing() {
        due.sentence("7: NONE: there is no WHOLE VOICING (nothing changes)");
        for (int notes = 2; notes <= 14; notes += 3) {
            VoiceRows x = atOnce(notes);
            String before = Rows.all(x);
            for (int n = 1; n <= 4 && n < notes; n++) due.is(notes + " at once, find(" + n + ")", x.find(n), Rows.NONE);
            due.same("all that it holds", Rows.all(x), before);
        }
        VoiceRows y = Rows.of(Rows.row(0, 5, 60, 1), Rows.row(5, 6, 60, 1), Rows.row(4, 5, 60, 1));
        due.is("only the last two touch", y.find(1), Rows.NONE);
        due.same("its voices", Rows.voices(y), "111");
        VoiceRows z = Rows.of(Rows.row(0, 2, 60), Rows.row(2, 9, 90), Rows.row(3, 9, 10), Rows.row(4, 9, 50));
        Rows.weigh(z, 1000, 1000, 1000, 1000);
        for (int n = 1; n <= 2; n++) due.is("whatever a part of them costs, find(" + n + ")", z.find(n), Rows.NONE);
        due.same("its voices", Rows.voices(z), "----");
    }

    static void p7StateMoreThanFourteen() {
        due.sentence("7: STATE: there are more than 14 NOTES");
        VoiceRows x = Rows.chain(14);
        due.is("14", x.find(4), 0);
        x.note(14, 15, 60);
        String before = Rows.all(x);
        for (int n = 1; n <= 4; n++) due.is("15, find(" + n + ")", x.find(n), Rows.STATE);
        due.same("all that it holds", Rows.all(x), before);
        due.is("60", Rows.chain(60).find(1), Rows.STATE);
        due.is("15 that have no WHOLE VOICING", atOnce(15).find(4), Rows.STATE);
        x.clear();
        due.is("none again", x.find(4), 0);
    }

    static void p8WhatFindWouldAnswer() {
        due.sentence("8: What find(n) would answer");
        for (int notes = 0; notes <= 15; notes++) {
            VoiceRows x = new VoiceRows(), y = new VoiceRows();
            for (int i = 0; i < notes; i++) {
                x.note(3 * i, 3 * i + 1 + i % 7, 60 + 5 * i % 8);
                y.note(3 * i, 3 * i + 1 + i % 7, 60 + 5 * i % 8);
            }
            for (int n = -1; n <= 6; n++) due.is(notes + " notes, least(" + n + ")", x.least(n), y.find(n));
        }
        due.is("none is WHOLE", atOnce(5).least(4), Rows.NONE);
        due.is("no voices", atOnce(1).least(0), Rows.RANGE);
        due.is("too many voices", atOnce(1).least(5), Rows.RANGE);
        for (int n = 1; n <= 4; n++) due.is("14 notes, least(" + n + ")", Rows.chain(14).least(n), 0);
        due.is("15 notes", Rows.chain(15).least(4), Rows.STATE);
        due.is("60 notes", Rows.chain(60).least(4), Rows.STATE);
    }

    static void p8NothingChanges() {
        due.sentence("8: nothing changes");
        VoiceRows x = Rows.of(Rows.row(0, 1, 60, 3), Rows.row(1, 2, 70), Rows.row(1, 2, 50, 2));
        String before = Rows.all(x);
        for (int n = 0; n <= 5; n++) {
            x.least(n);
            due.same("after least(" + n + ")", Rows.all(x), before);
        }
        x.find(2);
        String found = Rows.all(x);
        due.is("least(4) after find(2)", x.least(4), 0);
        due.same("what was found stays", Rows.all(x), found);
    }

    static void p9One() {
        due.sentence("9: GOING ALONG with n VOICES: 1");
        due.is("without notes", new VoiceRows().along(1), 1);
        due.is("a single note", Rows.chain(1).along(1), 1);
        due.is("14", Rows.chain(14).along(4), 1);
        VoiceRows x = Rows.chain(60);
        due.is("60", x.along(1), 1);
        due.is("all in voice 0", x.voice(0, 2), 60);
        due.is("WHOLE", x.told(3), 1);
    }

    static void p9NoneItWasGivenUp() {
        due.sentence("9: NONE: it was given up (nothing changes)");
        for (int notes = 2; notes <= 60; notes += 29) {
            VoiceRows x = atOnce(notes);
            for (int n = 1; n <= 4 && n < notes; n++) due.is(notes + " at once, along(" + n + ")", x.along(n), Rows.NONE);
            due.same("all that it holds", Rows.all(x), Rows.all(atOnce(notes)));
        }
    }

    /** Of 60 notes the last one by ORDER sounds together with the one before it. */
    private static VoiceRows twoAtTheEnd() {
        VoiceRows x = Rows.chain(59);
        x.along(4);
        x.put(7, 2);
        x.note(58, 59, 60);
        return x;
    }

    static void p9NoneAtTheLastNote() {
        due.sentence("9: NONE: it was given up (at the last NOTE; nothing changes)");
        VoiceRows x = twoAtTheEnd();
        due.is("along(1)", x.along(1), Rows.NONE);
        due.same("those before it keep theirs", Rows.all(x), Rows.all(twoAtTheEnd()));
    }

    static void p9Range() {
        due.sentence("9: RANGE");
        VoiceRows x = atOnce(3);
        String before = Rows.all(x);
        int[] wrong = {0, 5, -1, -4, Rows.LOW, Rows.HIGH};
        for (int n : wrong) due.is("along(" + n + ")", x.along(n), Rows.RANGE);
        for (int n : wrong) due.is("without notes, along(" + n + ")", new VoiceRows().along(n), Rows.RANGE);
        due.same("all that it holds", Rows.all(x), before);
    }

    static void p10CostAndItsParts() {
        due.sentence("10: COST of the VOICING (part 0), or its LEAPS (1), GAPS (2), CROSSINGS (3), USED (4)");
        VoiceRows x = Rows.of(Rows.row(0, 4, 60, 0), Rows.row(0, 4, 61, 1), Rows.row(7, 8, 65, 0));
        due.same("at first", Rows.costs(x), "20 5 3 12 0");
        Rows.weigh(x, 2, 10, 100, 1000);
        due.same("with weights", Rows.costs(x), "2140 10 30 100 2000");
        Rows.weigh(x, 0, 0, 0, 0);
        due.same("without weights", Rows.costs(x), "0 0 0 0 0");
        due.same("without notes", Rows.costs(new VoiceRows()), "0 0 0 0 0");
    }

    static void p10Range() {
        due.sentence("10: RANGE");
        VoiceRows x = Rows.of(Rows.row(0, 4, 60, 0));
        int[] wrong = {-1, 5, Rows.LOW, Rows.HIGH};
        for (int part : wrong) due.is("WHOLE, cost(" + part + ")", x.cost(part), Rows.RANGE);
        x.put(0, Rows.NONE);
        for (int part : wrong) due.is("not WHOLE, cost(" + part + ")", x.cost(part), Rows.RANGE);
    }

    static void p10StateNotWhole() {
        due.sentence("10: STATE: it is not WHOLE");
        VoiceRows x = Rows.of(Rows.row(0, 4, 60, 0), Rows.row(4, 6, 61, 0));
        due.same("WHOLE", Rows.costs(x), "1 1 0 0 0");
        x.put(1, Rows.NONE);
        due.same("the last has no voice", Rows.costs(x), "-3 -3 -3 -3 -3");
        x.put(1, 0);
        x.put(0, Rows.NONE);
        due.same("the first has no voice", Rows.costs(x), "-3 -3 -3 -3 -3");
        x.put(0, 0);
        x.move(0, 0, 5, 60);
        due.same("two sound together", Rows.costs(x), "-3 -3 -3 -3 -3");
        x.move(0, 0, 4, 60);
        due.same("WHOLE again", Rows.costs(x), "1 1 0 0 0");
    }
}
