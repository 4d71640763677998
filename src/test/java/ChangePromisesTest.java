/** Promises 1 to 6: one method for each sentence that names a boundary. */
public final class ChangePromisesTest {
    private static final Due due = new Due("ChangePromisesTest");

    public static void main(String[] args) {
        Sentences.runAll(ChangePromisesTest.class, due);
    }

    static void p1NoNotes() {
        due.sentence("1: No NOTES.");
        VoiceRows x = new VoiceRows();
        due.is("told(0)", x.told(0), 0);
        due.is("told(1)", x.told(1), 0);
        due.is("of(0, 0)", x.of(0, 0), Rows.RANGE);
        due.is("put(0, 0)", x.put(0, 0), Rows.RANGE);
        due.is("move(0, 0, 1, 60)", x.move(0, 0, 1, 60), Rows.RANGE);
        due.is("ranked(0)", x.ranked(0), Rows.RANGE);
        due.is("sounding(0)", x.sounding(0), 0);
        due.is("sounding(100000)", x.sounding(100000), 0);
        for (int v = 0; v < 4; v++) due.is("voice(" + v + ", 2)", x.voice(v, 2), 0);
    }

    static void p1EachObjectByItself() {
        due.sentence("1: No NOTES. (whatever another object has)");
        VoiceRows one = Rows.chain(60);
        one.weigh(0, 9);
        one.find(4);
        VoiceRows other = new VoiceRows();
        due.is("told(0)", other.told(0), 0);
        due.same("the weights", Rows.weights(other), "1 1 12 0");
        other.note(0, 1, 1);
        other.clear();
        due.is("the first still has its own", one.told(0), 60);
        due.same("and its weights", Rows.weights(one), "9 1 12 0");
    }

    static void p2AllAsAtFirst() {
        due.sentence("2: All as at first");
        VoiceRows x = Rows.chain(60);
        x.along(4);
        Rows.weigh(x, 1000, 0, 1000, 1000);
        x.clear();
        VoiceRows first = new VoiceRows();
        due.same("all that it holds", Rows.all(x), Rows.all(first));
        due.is("THE END", x.told(2), 0);
        due.is("needed()", x.needed(), 0);
        due.is("sounding(0)", x.sounding(0), 0);
        due.is("told(4)", x.told(4), 0);
        for (int v = 0; v < 5; v++) due.is("rests(" + v + ")", x.rests(v), 0);
        for (int kind = 0; kind < 3; kind++) due.is("pairs(" + kind + ")", x.pairs(kind), 0);
        int[][] notes = {{4, 8, 64}, {0, 4, 70}, {0, 6, 60}};
        Rows.add(x, notes);
        Rows.add(first, notes);
        due.is("find(2)", x.find(2), first.find(2));
        due.same("all that it holds, after find(2)", Rows.all(x), Rows.all(first));
    }

    static void p2RoomForSixtyAgain() {
        due.sentence("2: All as at first (full before)");
        VoiceRows x = Rows.chain(60);
        x.clear();
        for (int i = 0; i < 60; i++) due.is("note " + i, x.note(i, i + 1, 60), i);
        due.is("the 61st", x.note(0, 1, 60), Rows.FULL);
    }

    static void p2HowManyThereWere() {
        due.sentence("2: how many NOTES there were");
        VoiceRows x = new VoiceRows();
        due.is("none", x.clear(), 0);
        x.note(0, 1, 60);
        due.is("one", x.clear(), 1);
        due.is("none again", x.clear(), 0);
        VoiceRows full = Rows.chain(60);
        full.note(0, 1, 60);
        due.is("60, and one that was refused", full.clear(), 60);
    }

    static void p3WithoutAVoice() {
        due.sentence("3: A NOTE, without a VOICE");
        VoiceRows x = new VoiceRows();
        x.put(x.note(0, 1, 60), 3);
        x.note(1, 2, 60);
        due.is("beside one that has one", x.of(1, 3), Rows.NONE);
        due.is("that one keeps its own", x.of(0, 3), 3);
        x.put(1, 2);
        x.clear();
        Rows.add(x, Rows.row(0, 1, 60), Rows.row(1, 2, 60));
        due.same("in the place of notes that had one", Rows.voices(x), "--");
        due.is("told(1)", x.told(1), 0);
    }

    static void p3ItsNumber() {
        due.sentence("3: its number");
        VoiceRows x = new VoiceRows();
        for (int i = 0; i < 60; i++) due.is("note " + i, x.note(100 - i, 200, i), i);
        for (int i = 0; i < 60; i++) due.is("of(" + i + ", 2)", x.of(i, 2), i);
    }

    static void p3Range() {
        due.sentence("3: RANGE");
        VoiceRows x = new VoiceRows();
        int[][] wrong = {{-1, 1, 60}, {0, 100001, 60}, {0, 0, 60}, {100000, 100000, 60}, {2, 1, 60}, {0, 1, -1}, {0, 1, 128}};
        for (int[] w : wrong) due.is("note(" + w[0] + ", " + w[1] + ", " + w[2] + ")", x.note(w[0], w[1], w[2]), Rows.RANGE);
        due.is("told(0)", x.told(0), 0);
        due.is("the least of all", x.note(0, 1, 0), 0);
        due.is("the greatest of all", x.note(99999, 100000, 127), 1);
    }

    static void p3Full() {
        due.sentence("3: FULL");
        VoiceRows x = Rows.chain(60);
        due.is("the 61st", x.note(0, 100000, 127), Rows.FULL);
        due.same("all that it holds", Rows.all(x), Rows.all(Rows.chain(60)));
        due.is("not FULL with 59", Rows.chain(59).note(0, 1, 60), 59);
    }

    static void p4AnotherFromToPitch() {
        due.sentence("4: A NOTE gets another FROM, TO, PITCH");
        VoiceRows x = Rows.chain(60);
        due.is("the first, in a full object", x.move(0, 99999, 100000, 127), 1);
        due.is("FROM", x.of(0, 0), 99999);
        due.is("TO", x.of(0, 1), 100000);
        due.is("PITCH", x.of(0, 2), 127);
        due.is("its RANK", x.of(0, 4), 59);
        due.is("the last", x.move(59, 0, 1, 0), 1);
        due.is("FROM", x.of(59, 0), 0);
        due.is("TO", x.of(59, 1), 1);
        due.is("PITCH", x.of(59, 2), 0);
        due.is("its RANK", x.of(59, 4), 0);
        for (int i = 1; i < 59; i++) due.is("the others stay, of(" + i + ", 0)", x.of(i, 0), i);
        due.is("told(0)", x.told(0), 60);
    }

    static void p4ToWhereItIs() {
        due.sentence("4: A NOTE gets another FROM, TO, PITCH (the same ones): 1");
        VoiceRows x = Rows.of(Rows.row(3, 4, 60, 2));
        String before = Rows.all(x);
        due.is("move(0, 3, 4, 60)", x.move(0, 3, 4, 60), 1);
        due.same("all that it holds", Rows.all(x), before);
    }

    static void p4ItsVoiceStays() {
        due.sentence("4: (its VOICE stays)");
        VoiceRows x = Rows.of(Rows.row(0, 1, 60, 3), Rows.row(1, 2, 60, 3), Rows.row(2, 3, 60));
        x.move(0, 5, 9, 10);
        due.is("of(0, 3)", x.of(0, 3), 3);
        due.is("even if it now sounds together with one of its VOICE", x.move(1, 5, 6, 60), 1);
        due.is("of(1, 3)", x.of(1, 3), 3);
        due.is("of(1, 6)", x.of(1, 6), 1);
        x.move(2, 50, 60, 70);
        due.is("none stays none", x.of(2, 3), Rows.NONE);
    }

    static void p4Range() {
        due.sentence("4: RANGE");
        VoiceRows x = Rows.of(Rows.row(3, 4, 60, 2), Rows.row(5, 6, 61));
        String before = Rows.all(x);
        int[][] wrong = {{-1, 0, 1, 60}, {2, 0, 1, 60}, {59, 0, 1, 60}, {60, 0, 1, 60}, {0, -1, 1, 60}, {0, 0, 100001, 60}, {0, 1, 1, 60},
            {0, 2, 1, 60}, {0, 0, 1, -1}, {0, 0, 1, 128}};
        for (int[] w : wrong) {
            due.is("move(" + w[0] + ", " + w[1] + ", " + w[2] + ", " + w[3] + ")", x.move(w[0], w[1], w[2], w[3]), Rows.RANGE);
        }
        due.same("all that it holds", Rows.all(x), before);
        due.is("in an object without notes", new VoiceRows().move(0, 0, 1, 60), Rows.RANGE);
    }

    static void p5BecomesW() {
        due.sentence("5: WEIGHT which becomes w");
        VoiceRows x = new VoiceRows();
        for (int i = 0; i < 4; i++) x.weigh(i, 10 + i);
        due.same("each its own", Rows.weights(x), "10 11 12 13");
        Rows.weigh(x, 0, 0, 0, 0);
        due.same("the least", Rows.weights(x), "0 0 0 0");
        Rows.weigh(x, 1000, 1000, 1000, 1000);
        due.same("the greatest", Rows.weights(x), "1000 1000 1000 1000");
    }

    static void p5WhatItWas() {
        due.sentence("5: what it was");
        VoiceRows x = new VoiceRows();
        int[] first = {1, 1, 12, 0};
        for (int i = 0; i < 4; i++) {
            due.is("weigh(" + i + ", 1000)", x.weigh(i, 1000), first[i]);
            due.is("weigh(" + i + ", 0)", x.weigh(i, 0), 1000);
            due.is("weigh(" + i + ", 0) again", x.weigh(i, 0), 0);
        }
    }

    static void p5Range() {
        due.sentence("5: RANGE");
        VoiceRows x = new VoiceRows();
        int[][] wrong = {{-1, 0}, {4, 0}, {0, -1}, {0, 1001}, {3, -1}, {3, 1001}, {-1, -1}, {4, 1001}, {Rows.LOW, 1}, {Rows.HIGH, 1},
            {1, Rows.LOW}, {1, Rows.HIGH}};
        for (int[] w : wrong) due.is("weigh(" + w[0] + ", " + w[1] + ")", x.weigh(w[0], w[1]), Rows.RANGE);
        due.same("the weights", Rows.weights(x), "1 1 12 0");
    }

    static void p6GetsAVoice() {
        due.sentence("6: A NOTE gets a VOICE");
        VoiceRows x = Rows.of(Rows.row(0, 9, 60), Rows.row(0, 9, 60), Rows.row(0, 9, 60));
        x.put(0, 0);
        x.put(2, 3);
        due.same("the others have none", Rows.voices(x), "0-3");
        x.put(1, 0);
        due.same("even if it sounds together with one of that VOICE", Rows.voices(x), "003");
    }

    static void p6NoneForNone() {
        due.sentence("6: (NONE: none)");
        VoiceRows x = Rows.of(Rows.row(0, 1, 60, 3), Rows.row(1, 2, 60, 3));
        due.is("put(0, NONE)", x.put(0, Rows.NONE), 3);
        due.same("the voices", Rows.voices(x), "-3");
        due.is("put(0, NONE) again", x.put(0, Rows.NONE), Rows.NONE);
        due.is("told(1)", x.told(1), 1);
    }

    static void p6WhatItHad() {
        due.sentence("6: what it had");
        VoiceRows x = Rows.chain(60);
        due.is("none", x.put(59, 0), Rows.NONE);
        due.is("0", x.put(59, 3), 0);
        due.is("3, and again 3", x.put(59, 3), 3);
        due.is("3", x.put(59, Rows.NONE), 3);
        due.is("none", x.put(59, 1), Rows.NONE);
    }

    static void p6Range() {
        due.sentence("6: RANGE");
        VoiceRows x = Rows.of(Rows.row(3, 4, 60, 2), Rows.row(5, 6, 61));
        String before = Rows.all(x);
        int[][] wrong = {{-1, 0}, {2, 0}, {60, 0}, {0, -2}, {0, 4}, {-1, -1}, {2, Rows.NONE}, {Rows.LOW, 0}, {Rows.HIGH, 0}, {0, Rows.LOW},
            {0, Rows.HIGH}};
        for (int[] w : wrong) due.is("put(" + w[0] + ", " + w[1] + ")", x.put(w[0], w[1]), Rows.RANGE);
        due.same("all that it holds", Rows.all(x), before);
        due.is("in an object without notes", new VoiceRows().put(0, 0), Rows.RANGE);
    }
}
