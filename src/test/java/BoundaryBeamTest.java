/** The boundaries that the Terms and promises 1 to 4 name: findings, the new object, the beam. */
public final class BoundaryBeamTest extends Boundary {
    public static void main(String[] args) {
        termsFindingsAreBelow();
        termsFindingsInLongs();
        termsSetsByBits();
        p1NothingThere();
        p1SheetsAreMissing();
        p1ObjectsAreApart();
        p2BearingIs0To59();
        p2SpeedIs1To10();
        p2ThickIs1To40();
        p2OtherWhats();
        p2ThoseOnStay();
        p3Whats();
        p3EmptyAndAll();
        p4OutIs0To9();
        p4Whats();
        p4BearsNoLessThan0();
        p4WeighsOnlyThere();
        end();
    }

    /** "FINDINGS are answers below -1000000000: -1000000001 BEYOND, .. -1000000007 SIZE": one call for each. */
    private static void termsFindingsAreBelow() {
        refused("terms: BEYOND, now(7)", Boundary::busy, x -> x.now(7), -1000000001);
        refused("terms: FULL, thing(0, 0)", Boundary::busy, x -> x.thing(0, 0), -1000000002);
        refused("terms: KIND, as(0, 1)", Boundary::busy, x -> x.as(0, 1), -1000000003);
        refused("terms: NONE, undo()", Boundary::nothing, x -> x.undo(), -1000000004);
        refused("terms: STATE, take(1)", Boundary::busy, x -> x.take(1), -1000000005);
        refused("terms: MISSING, lays(2)", Boundary::busy, x -> x.lays(2), -1000000006);
        refused("terms: SIZE, sheet(0, 8, -1)", Boundary::busy, x -> x.sheet(0, 8, -1), -1000000007);
    }

    /** "(in longs, too)": the one act that answers a long; numbers of a sheet may look like them, and are none. */
    private static void termsFindingsInLongs() {
        refused("terms: write(4, 0, 0)", Boundary::busy, x -> x.write(4, 0, 0), -1000000001);
        refused("terms: write(2, 0, 0)", Boundary::busy, x -> x.write(2, 0, 0), -1000000006);
        BeamSeats x = new BeamSeats();
        x.sheet(0, 64, 1);
        for (long number = -1000000008L; number <= -1000000000L; number++) {
            x.write(0, 0, number);
            due("terms: a number " + number, x.write(0, 0, 0), number);
        }
        due("terms: numbers are no findings", x.status(-1), 0);
    }

    /** "Sets are told by bits": none, the first, the last, all. */
    private static void termsSetsByBits() {
        BeamSeats x = new BeamSeats();
        for (int i = 0; i < 8; i++) {
            x.thing(THING, 0);
            x.set(i, OUT, i / 4);
        }
        due("terms: none is on", x.now(4), 0);
        x.lay(7);
        due("terms: the last is on", x.now(4), 128);
        x.lay(0);
        due("terms: first and last are on", x.now(4), 129);
        for (int i = 1; i < 7; i++) {
            x.lay(i);
        }
        due("terms: all are on", x.now(4), 255);
        due("terms: none is lost", x.now(5), 0);
        x.take(0);
        x.beam(BEAM, 57);
        due("terms: none is on behind the sea", x.seconds(1), 0);
        due("terms: all but the first are lost", x.now(5), 254);
        x.lay(0);
        x.beam(BEAM, 57);
        x.seconds(1);
        due("terms: all are lost", x.now(5), 255);
    }

    /** "Nothing there; THE TAPE is empty, no image is kept." */
    private static void p1NothingThere() {
        BeamSeats x = new BeamSeats();
        int[] now = {0, 0, 2, 20, 0, 0, 0};
        for (int what = 0; what < 7; what++) {
            due("1: now(" + what + ")", x.now(what), now[what]);
        }
        for (int what = 0; what < 4; what++) {
            due("1: count(" + what + ")", x.count(what), 0);
        }
        for (int which = -1; which < 7; which++) {
            due("1: status(" + which + ")", x.status(which), 0);
        }
        due("1: there is no thing 0", x.of(0, 0), BEYOND);
        due("1: the tape is empty", x.wipe(), 0);
        due("1: an empty text", x.island(), -1);
        due("1: no image to come back", x.undo(), NONE);
        due("1: no image to tear", x.tear(), 0);
    }

    /** "SHEETS 0 to 3 are .. MISSING (at first)." */
    private static void p1SheetsAreMissing() {
        for (int s = 0; s < 4; s++) {
            int one = s;
            refused("1: write(" + s + ", 0, 0)", Boundary::nothing, x -> x.write(one, 0, 0), MISSING);
        }
    }

    private static void p1ObjectsAreApart() {
        BeamSeats x = new BeamSeats();
        busy(new BeamSeats());
        alike("1: another object has had calls", x, new BeamSeats());
    }

    private static void refusedBeam(int what, int v) {
        String call = "2: beam(" + what + ", " + v + ")";
        refused(call, Boundary::busy, x -> x.beam(what, v), BEYOND);
    }

    private static void allOf(int what, int least, int most, int first) {
        BeamSeats x = new BeamSeats();
        int was = first;
        for (int v = least; v <= most; v++) {
            due("2: beam(" + what + ", " + v + ")", x.beam(what, v), was);
            due("2: it is " + v, x.now(what + 1), v);
            was = v;
        }
        int[] beyond = {least - 1, most + 1, -least - 1, 256 + least, MIN, MAX};
        for (int v : beyond) {
            refusedBeam(what, v);
        }
    }

    /** "the bearing (0 to 59) where it is (0 at first)" */
    private static void p2BearingIs0To59() {
        allOf(BEAM, 0, 59, 0);
    }

    /** "SPEED (bearings a second: 1 to 10; 2 at first)" */
    private static void p2SpeedIs1To10() {
        allOf(SPEED, 1, 10, 2);
        refusedBeam(SPEED, 0);
    }

    /** "THICK (1 to 40: ..; 20 at first)" */
    private static void p2ThickIs1To40() {
        allOf(THICK, 1, 40, 20);
        refusedBeam(THICK, 0);
    }

    /** "BEAM (what 0), SPEED (1), THICK (2)": another what. */
    private static void p2OtherWhats() {
        int[] others = {-1, 3, MIN, MAX};
        for (int what : others) {
            refusedBeam(what, 1);
        }
    }

    /** "(those ON it stay so, AT what they were AT)": also at the sea, and where the beam bears nothing any more. */
    private static void p2ThoseOnStay() {
        BeamSeats x = new BeamSeats();
        x.thing(THING, 9);
        x.thing(GUEST, 9);
        x.beam(BEAM, 20);
        x.lay(0);
        x.lay(1);
        int[] bearings = {58, 38, 59, 0};
        for (int v : bearings) {
            x.beam(BEAM, v);
            due("2: both stay on with the beam at " + v, x.now(4), 3);
            due("2: at what it was at, the beam at " + v, x.of(0, AT), 20);
        }
        x.beam(THICK, 1);
        due("2: both stay on a thin beam", x.now(4), 3);
        due("2: which bears nothing there", x.load(3, 0), 0);
        x.beam(SPEED, 10);
        due("2: and ride with it", x.seconds(1), 3);
        due("2: at the beam's bearing then", x.of(0, AT), 10);
    }

    /** "What 0 SECOND, .. 6 what all that is ON WEIGHS together. BEYOND." */
    private static void p3Whats() {
        int[] due = {1, 7, 3, 20, 45, 64, 14};
        for (int what = 0; what < 7; what++) {
            int one = what;
            looks("3: now(" + what + ")", Boundary::busy, x -> x.now(one), due[what]);
        }
        int[] others = {-1, 7, MIN, MAX};
        for (int what : others) {
            refused("3: now(" + what + ")", Boundary::busy, x -> x.now(what), BEYOND);
            refused("3: now(" + what + ")", Boundary::nothing, x -> x.now(what), BEYOND);
        }
    }

    /** "4 what is ON, 5 what is LOST, as sets, 6 what all that is ON WEIGHS together": nothing, and all there can be. */
    private static void p3EmptyAndAll() {
        BeamSeats x = new BeamSeats();
        x.beam(THICK, 40);
        for (int i = 0; i < 8; i++) {
            x.thing(GUEST, 1);
        }
        due("3: nothing on weighs", x.now(6), 0);
        for (int i = 0; i < 8; i++) {
            x.set(i, OUT, i / 5);
            x.lay(i);
            due("3: so many guests weigh", x.now(6), 5 * (i + 1));
            due("3: so many are on", x.now(4), (2 << i) - 1);
        }
    }

    private static void refusedLoad(int out, int what) {
        String call = "4: load(" + out + ", " + what + ")";
        refused(call, Boundary::busy, x -> x.load(out, what), BEYOND);
    }

    /** "at an OUT (0 to 9)" */
    private static void p4OutIs0To9() {
        for (int out = 0; out < 10; out++) {
            int one = out;
            looks("4: load(" + out + ", 0)", Boundary::busy, x -> x.load(one, 0), 20 - 2 * out);
        }
        int[] others = {-1, 10, MIN, MAX};
        for (int out : others) {
            refusedLoad(out, 0);
            refusedLoad(out, 1);
        }
    }

    /** "What 0 it BEARS .., 1 that is ON there WEIGHS together. BEYOND." */
    private static void p4Whats() {
        int[] lies = {0, 5, 4, 5, 0, 0, 0, 0, 0, 0};
        for (int out = 0; out < 10; out++) {
            int one = out;
            looks("4: load(" + out + ", 1)", Boundary::busy, x -> x.load(one, 1), lies[out]);
        }
        int[] others = {-1, 2, MIN, MAX};
        for (int what : others) {
            refusedLoad(0, what);
            refusedLoad(9, what);
        }
    }

    /** "as much as THICK less 2 times o (0 at least)": just above 0, 0, and where it would be below. */
    private static void p4BearsNoLessThan0() {
        BeamSeats x = new BeamSeats();
        int[][] bears = {{1, 0, 1}, {1, 1, 0}, {1, 9, 0}, {2, 1, 0}, {3, 1, 1}, {17, 9, 0}, {18, 9, 0}, {19, 9, 1},
            {40, 0, 40}, {40, 9, 22}};
        for (int[] b : bears) {
            x.beam(THICK, b[0]);
            due("4: THICK " + b[0] + " bears at " + b[1], x.load(b[1], 0), b[2]);
        }
    }

    /** "that is ON there": not one at another OUT, nor one that isn't ON. */
    private static void p4WeighsOnlyThere() {
        BeamSeats x = new BeamSeats();
        for (int i = 0; i < 3; i++) {
            x.thing(RIDER, 1);
            x.set(i, OUT, i + 4);
        }
        due("4: none is on", x.load(5, 1), 0);
        x.lay(0);
        x.lay(2);
        due("4: beside it", x.load(5, 1), 0);
        x.lay(1);
        due("4: it alone", x.load(5, 1), 4);
        x.set(0, OUT, 5);
        due("4: one moved there", x.load(5, 1), 8);
        due("4: from here", x.load(4, 1), 0);
    }
}
