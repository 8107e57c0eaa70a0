import java.util.LinkedHashMap;
import java.util.Map;
import java.util.function.Consumer;
import java.util.function.ToLongFunction;

/**
 * What the tests of the boundaries share: answers that are compared with what is due, and an object that is compared
 * with a twin, one that has had the same calls but one. Only the public face is asked, and no object gets more than
 * the 512 calls that the document allows.
 */
abstract class Boundary {
    static final int BEYOND = -1000000001;
    static final int FULL = -1000000002;
    static final int KIND = -1000000003;
    static final int NONE = -1000000004;
    static final int STATE = -1000000005;
    static final int MISSING = -1000000006;
    static final int SIZE = -1000000007;

    static final int THING = 0;
    static final int WASH = 1;
    static final int RIDER = 2;
    static final int GUEST = 3;
    static final int SHEET = 4;
    static final int THIEF = 5;

    static final int AT = 1;
    static final int OUT = 2;
    static final int ON = 3;
    static final int WET = 4;
    static final int GOAL = 5;
    static final int LOST = 6;
    static final int TIMES = 7;
    static final int WEIGHS = 8;
    static final int DRIES = 9;

    static final int BEAM = 0;
    static final int SPEED = 1;
    static final int THICK = 2;

    static final int MIN = Integer.MIN_VALUE;
    static final int MAX = Integer.MAX_VALUE;

    private static int asked = 0;
    private static int wrong = 0;

    /** A call of which the thing is still to be told. */
    interface ThingCall {
        long of(BeamSeats x, int thing);
    }

    static void due(String what, long got, long want) {
        asked++;
        if (got != want) {
            wrong++;
            System.out.println(what + " answered " + got + ", due is " + want);
        }
    }

    static void end() {
        System.out.println(asked + " answers asked, " + wrong + " not as due");
        if (wrong != 0) {
            System.exit(1);
        }
    }

    /** An object that has had some calls. */
    static BeamSeats after(Consumer<BeamSeats> calls) {
        BeamSeats x = new BeamSeats();
        calls.accept(x);
        return x;
    }

    static void nothing(BeamSeats x) {
        // a new object as it is
    }

    /** All kinds; 0, 2, 3, 5 on, 6 lost, 1 too heavy for where it would lie; a tape, sheets, an image of another island. */
    static void busy(BeamSeats x) {
        x.beam(THICK, 31);
        x.thing(GUEST, 11);
        x.set(0, WET, 12);
        x.image();
        x.turn(0, THING);
        x.beam(THICK, 20);
        int[] kinds = {WASH, RIDER, GUEST, SHEET, THIEF, THING, WASH};
        for (int k = 0; k < kinds.length; k++) {
            x.thing(kinds[k], 12 + k);
        }
        x.beam(BEAM, 57);
        x.lay(6);
        x.seconds(1);
        x.beam(BEAM, 7);
        x.beam(SPEED, 3);
        x.set(2, OUT, 2);
        x.set(3, OUT, 1);
        x.set(5, GOAL, 44);
        x.lay(0);
        x.lay(2);
        x.lay(3);
        x.lay(5);
        x.set(1, OUT, 9);
        x.set(1, WET, 99);
        x.set(7, WET, 0);
        x.set(7, TIMES, 9999);
        tape(x, "thick 9");
        sheets(x);
        x.now(7);
    }

    /** A wash, a rider that is on, and a thief; sheets, but no image. */
    static void three(BeamSeats x) {
        x.thing(WASH, 3);
        x.thing(RIDER, 2);
        x.thing(THIEF, 9);
        x.lay(1);
        sheets(x);
    }

    /** No thing, but sheets. */
    static void none(BeamSeats x) {
        sheets(x);
    }

    private static void sheets(BeamSeats x) {
        x.sheet(0, 8, 3);
        x.write(0, 0, 5);
        x.write(0, 1, -7);
        x.write(0, 2, 99);
        x.sheet(1, 8, 2);
        x.write(1, 0, 100);
        x.write(1, 1, 2);
        x.sheet(3, 16, 1);
        x.write(3, 0, 300);
    }

    static void tape(BeamSeats x, String text) {
        for (int k = 0; k < text.length(); k++) {
            x.feed(text.charAt(k), 1);
        }
    }

    /** The call answers a finding, which status() counts, and changes nothing else. */
    static void refused(String what, Consumer<BeamSeats> before, ToLongFunction<BeamSeats> call, int finding) {
        BeamSeats x = after(before);
        BeamSeats twin = after(before);
        due(what, call.applyAsLong(x), finding);
        for (int which = -1; which < 7; which++) {
            int more = which == -1 || which == BEYOND - finding ? 1 : 0;
            due(what + ": then status(" + which + ")", x.status(which), twin.status(which) + more);
        }
        same(what, x, twin);
    }

    /** BEYOND where there is no such one: below 0, behind the last of three and of eight, and where there is none. */
    static void noSuchThing(String what, ThingCall call) {
        int[] beyondEight = {-1, 8, 32, 33, MIN, MAX};
        for (int i : beyondEight) {
            refused(what + " of " + i, Boundary::busy, x -> call.of(x, i), BEYOND);
        }
        refused(what + " of 3, where three are", Boundary::three, x -> call.of(x, 3), BEYOND);
        refused(what + " of 0, where none is", Boundary::none, x -> call.of(x, 0), BEYOND);
    }

    /** The call answers no finding, and changes nothing. */
    static void looks(String what, Consumer<BeamSeats> before, ToLongFunction<BeamSeats> call, long answer) {
        BeamSeats x = after(before);
        due(what, call.applyAsLong(x), answer);
        alike(what, x, after(before));
    }

    /** Both answer the same, status() too. */
    static void alike(String what, BeamSeats x, BeamSeats twin) {
        for (int which = -1; which < 7; which++) {
            due(what + ": then status(" + which + ")", x.status(which), twin.status(which));
        }
        same(what, x, twin);
    }

    /** Both answer the same, but for status(); neither is of use behind this. */
    private static void same(String what, BeamSeats x, BeamSeats twin) {
        Map<String, Long> got = told(x);
        Map<String, Long> want = told(twin);
        due(what + ": then so many can be asked", got.size(), want.size());
        for (Map.Entry<String, Long> entry : want.entrySet()) {
            due(what + ": then " + entry.getKey(), got.getOrDefault(entry.getKey(), Long.MAX_VALUE), entry.getValue());
        }
    }

    /** What can be asked of an object: the island and the sheets, then what the tape tells, then what is kept. */
    private static Map<String, Long> told(BeamSeats x) {
        Map<String, Long> told = new LinkedHashMap<>();
        tellIsland(x, "", told);
        for (int s = 0; s < 4; s++) {
            tellSheet(x, s, told);
        }
        told.put("island()", (long) x.island());
        tellIsland(x, "the tape's ", told);
        told.put("undo()", (long) x.undo());
        tellIsland(x, "the image's ", told);
        return told;
    }

    private static void tellIsland(BeamSeats x, String whose, Map<String, Long> told) {
        for (int what = 0; what < 7; what++) {
            told.put(whose + "now(" + what + ")", (long) x.now(what));
        }
        for (int what = 0; what < 4; what++) {
            told.put(whose + "count(" + what + ")", (long) x.count(what));
        }
        for (int i = 0; i < x.count(0); i++) {
            for (int what = 0; what < 10; what++) {
                told.put(whose + "of(" + i + ", " + what + ")", (long) x.of(i, what));
            }
        }
    }

    /** The numbers, and by what stays of 0x10080 how many bits they have. */
    private static void tellSheet(BeamSeats x, int s, Map<String, Long> told) {
        for (int i = 0; i <= 40; i++) {
            long was = x.write(s, i, 0x10080);
            told.put("write(" + s + ", " + i + ")", was);
            if (was == BEYOND || was == MISSING) {
                return;
            }
            told.put("write(" + s + ", " + i + ") again", x.write(s, i, 0));
        }
    }
}
