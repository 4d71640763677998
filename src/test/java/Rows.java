/**
 * Objects made of rows of notes, and all that can be asked of an object. Tests keep to the 512 calls
 * that an object is used for: what would take more is asked of a second object, made alike.
 */
final class Rows {
    static final int NONE = -1, RANGE = -2, STATE = -3, FULL = -4;
    static final int LOW = Integer.MIN_VALUE, HIGH = Integer.MAX_VALUE;
    /** Numbers that are far outside of every range, or would come back into one if something wrapped around. */
    static final int[] FAR = {LOW, LOW + 1, HIGH, HIGH - 1, 1 << 16, 1 << 30, -(1 << 16)};

    private Rows() {
    }

    /** Each row is FROM, TO, PITCH and, if it has a fourth, the VOICE. */
    static VoiceRows of(int[]... notes) {
        VoiceRows x = new VoiceRows();
        add(x, notes);
        return x;
    }

    static void add(VoiceRows x, int[]... notes) {
        for (int[] n : notes) {
            int number = x.note(n[0], n[1], n[2]);
            if (n.length > 3) x.put(number, n[3]);
        }
    }

    static int[] row(int... numbers) {
        return numbers;
    }

    /** As many notes one behind the other, without voices. */
    static VoiceRows chain(int notes) {
        VoiceRows x = new VoiceRows();
        for (int i = 0; i < notes; i++) x.note(i, i + 1, 60);
        return x;
    }

    static void weigh(VoiceRows x, int... weights) {
        for (int i = 0; i < 4; i++) x.weigh(i, weights[i]);
    }

    /** The voices of the notes by their numbers, with a dash for none. */
    static String voices(VoiceRows x) {
        StringBuilder text = new StringBuilder();
        int notes = x.told(0);
        for (int i = 0; i < notes; i++) text.append(x.of(i, 3) == NONE ? "-" : "" + x.of(i, 3));
        return text.toString();
    }

    /** The notes by their ranks. */
    static String order(VoiceRows x) {
        StringBuilder text = new StringBuilder();
        int notes = x.told(0);
        for (int i = 0; i < notes; i++) text.append(i == 0 ? "" : " ").append(x.ranked(i));
        return text.toString();
    }

    /** The rests of a voice, each as begin-end. */
    static String rests(VoiceRows x, int voice) {
        StringBuilder text = new StringBuilder();
        int all = x.rests(voice);
        for (int i = 0; i < all; i++) {
            text.append(i == 0 ? "" : " ").append(x.rest(voice, i, 0)).append("-").append(x.rest(voice, i, 1));
        }
        return text.toString();
    }

    /** The pairs of a kind, each as one+other. */
    static String pairs(VoiceRows x, int kind) {
        StringBuilder text = new StringBuilder();
        int all = x.pairs(kind);
        for (int i = 0; i < all; i++) {
            text.append(i == 0 ? "" : " ").append(x.pair(kind, i, 0)).append("+").append(x.pair(kind, i, 1));
        }
        return text.toString();
    }

    static String costs(VoiceRows x) {
        StringBuilder text = new StringBuilder();
        for (int part = 0; part < 5; part++) text.append(part == 0 ? "" : " ").append(x.cost(part));
        return text.toString();
    }

    /** A weight can be read only by setting it, so each is set back. */
    static String weights(VoiceRows x) {
        StringBuilder text = new StringBuilder();
        for (int i = 0; i < 4; i++) {
            int was = x.weigh(i, 0);
            x.weigh(i, was);
            text.append(i == 0 ? "" : " ").append(was);
        }
        return text.toString();
    }

    /** All that the object holds: five calls a note and nine more, so of 60 notes it can be asked but once. */
    static String all(VoiceRows x) {
        StringBuilder text = new StringBuilder();
        int notes = x.told(0);
        for (int note = 0; note < notes; note++) {
            for (int what = 0; what < 5; what++) text.append(x.of(note, what)).append(" ");
            text.append("/ ");
        }
        return text.append(weights(x)).toString();
    }
}
