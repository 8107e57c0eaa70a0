/** The boundaries that promises 5 to 12 name: things. */
public final class BoundaryThingsTest extends Boundary {
    public static void main(String[] args) {
        p5KindAndBearing();
        p5AtMost8();
        p5BeyondBeforeFull();
        p5AtFirst();
        p6Thing();
        p6Whats();
        p6WetBy25IsCut();
        p6OutBy3IsCut();
        p6SpeedBy2IsCut();
        p7Thing();
        p7Whats();
        p7Values();
        p7OneOnStaysOn();
        p8Thing();
        p8Bearings();
        p8StateOn();
        p8NotLostAnyMore();
        p9Thing();
        p9Kinds();
        p10Thing();
        p10Kinds();
        p10KindOrUnderIt();
        p11Thing();
        p11StateOnOrLost();
        p11StateBeforeFull();
        p11JustBorne();
        p11BearsNothing();
        p11OnlyAtItsOut();
        p11TimesAreHeld();
        p11LaidAnywhere();
        p12Thing();
        p12StateNotOn();
        p12WhereTheBeamIs();
        end();
    }

    private static void refusedThing(int kind, int bearing, int finding) {
        String call = "5: thing(" + kind + ", " + bearing + ")";
        refused(call, Boundary::three, x -> x.thing(kind, bearing), finding);
    }

    /** "BEYOND: kind, bearing": kinds 0 to 5, bearings 0 to 59. */
    private static void p5KindAndBearing() {
        for (int kind = 0; kind < 6; kind++) {
            for (int bearing = 0; bearing < 60; bearing += 59) {
                BeamSeats x = after(Boundary::three);
                due("5: thing(" + kind + ", " + bearing + ")", x.thing(kind, bearing), 3);
                due("5: its kind", x.of(3, 0), kind);
                due("5: its bearing", x.of(3, AT), bearing);
            }
        }
        int[] otherKinds = {-1, 6, MIN, MAX};
        for (int kind : otherKinds) {
            refusedThing(kind, 0, BEYOND);
        }
        int[] otherBearings = {-1, 60, MIN, MAX};
        for (int bearing : otherBearings) {
            refusedThing(0, bearing, BEYOND);
        }
    }

    private static void seven(BeamSeats x) {
        for (int i = 0; i < 7; i++) {
            x.thing(i % 6, 10 + i);
        }
    }

    /** "THINGS 0, 1, .. (at most 8)": the eighth is there, for the ninth it is FULL. */
    private static void p5AtMost8() {
        BeamSeats x = new BeamSeats();
        for (int i = 0; i < 8; i++) {
            due("5: the number of one more", x.thing(THING, 59 - i), i);
            due("5: so many there are", x.count(0), i + 1);
        }
        due("5: the ninth", x.thing(THING, 0), FULL);
        due("5: eight there are", x.count(0), 8);
        refused("5: the ninth", Boundary::busy, y -> y.thing(THING, 0), FULL);
        refused("5: the ninth, of the last kind and bearing", Boundary::busy, y -> y.thing(THIEF, 59), FULL);
        due("5: the eighth", after(BoundaryThingsTest::seven).thing(THIEF, 59), 7);
    }

    /** "BEYOND: kind, bearing. FULL.": in that order. */
    private static void p5BeyondBeforeFull() {
        int[][] beyond = {{-1, 0}, {6, 0}, {0, -1}, {0, 60}, {6, 60}};
        for (int[] b : beyond) {
            String call = "5: full, and thing(" + b[0] + ", " + b[1] + ")";
            refused(call, Boundary::busy, x -> x.thing(b[0], b[1]), BEYOND);
        }
    }

    /** "One more AT a bearing, OUT 3": also where one was before an image came back, the eighth too. */
    private static void p5AtFirst() {
        BeamSeats x = new BeamSeats();
        seven(x);
        x.image();
        x.thing(GUEST, 1);
        x.set(7, OUT, 9);
        x.set(7, WET, 99);
        x.set(7, GOAL, 58);
        x.set(7, TIMES, 7);
        x.beam(THICK, 40);
        x.beam(BEAM, 57);
        x.lay(7);
        x.seconds(1);
        due("5: the eighth was lost", x.now(5), 128);
        x.undo();
        due("5: the eighth anew", x.thing(RIDER, 59), 7);
        int[] first = {RIDER, 59, 3, 0, 50, 30, 0, 0, 4, 1};
        for (int what = 0; what < first.length; what++) {
            due("5: its " + what + " at first", x.of(7, what), first[what]);
        }
    }

    private static void p6Thing() {
        for (int what = 0; what < 10; what++) {
            int one = what;
            noSuchThing("6: of(.., " + what + ")", (x, i) -> x.of(i, one));
        }
    }

    /** "what 0 KIND, .. 9 DRIES. BEYOND." */
    private static void p6Whats() {
        int[] first = {THING, 7, 3, 1, 12, 30, 0, 1, 3, 1};
        int[] last = {WASH, 18, 3, 0, 0, 30, 0, 9999, 1, 4};
        for (int what = 0; what < 10; what++) {
            int one = what;
            looks("6: of(0, " + what + ")", Boundary::busy, x -> x.of(0, one), first[what]);
            looks("6: of(7, " + what + ")", Boundary::busy, x -> x.of(7, one), last[what]);
        }
        int[] others = {-1, 10, MIN, MAX};
        for (int what : others) {
            refused("6: of(0, " + what + ")", Boundary::busy, x -> x.of(0, what), BEYOND);
            refused("6: of(7, " + what + ")", Boundary::busy, x -> x.of(7, what), BEYOND);
        }
    }

    /** "WASH: 1, and WET by 25", "SHEET: as WASH, and 1"; "Quotients are cut." */
    private static void p6WetBy25IsCut() {
        BeamSeats x = new BeamSeats();
        int[] fixed = {3, -1, 4, 5, -1, 2};
        for (int kind = 0; kind < 6; kind++) {
            x.thing(kind, 0);
        }
        int[][] wets = {{0, 1}, {1, 1}, {24, 1}, {25, 2}, {26, 2}, {49, 2}, {50, 3}, {74, 3}, {75, 4}, {99, 4}};
        for (int[] w : wets) {
            for (int kind = 0; kind < 6; kind++) {
                int want = kind == WASH ? w[1] : kind == SHEET ? w[1] + 1 : fixed[kind];
                x.set(kind, WET, w[0]);
                due("6: kind " + kind + " of WET " + w[0] + " weighs", x.of(kind, WEIGHS), want);
            }
        }
    }

    /** "WASH: 3, and 1 for each 3 of OUT"; others dry as much at any OUT. */
    private static void p6OutBy3IsCut() {
        BeamSeats x = new BeamSeats();
        int[] fixed = {1, -1, 1, 0, -1, 1};
        for (int kind = 0; kind < 6; kind++) {
            x.thing(kind, 0);
        }
        x.beam(SPEED, 1);
        int[] dries = {3, 3, 3, 4, 4, 4, 5, 5, 5, 6};
        for (int out = 0; out < 10; out++) {
            for (int kind = 0; kind < 6; kind++) {
                x.set(kind, OUT, out);
                int want = kind == WASH || kind == SHEET ? dries[out] : fixed[kind];
                due("6: kind " + kind + " at OUT " + out + " dries", x.of(kind, DRIES), want);
            }
        }
        x.set(WASH, WET, 0);
        due("6: a dry wash dries as much", x.of(WASH, DRIES), 6);
    }

    /** "SHEET: as WASH, and SPEED by 2"; others dry as much at any SPEED. */
    private static void p6SpeedBy2IsCut() {
        BeamSeats x = new BeamSeats();
        int[] fixed = {1, 4, 1, 0, 4, 1};
        for (int kind = 0; kind < 6; kind++) {
            x.thing(kind, 0);
        }
        for (int speed = 1; speed <= 10; speed++) {
            x.beam(SPEED, speed);
            for (int kind = 0; kind < 6; kind++) {
                int want = kind == SHEET ? 4 + speed / 2 : fixed[kind];
                due("6: kind " + kind + " with SPEED " + speed + " dries", x.of(kind, DRIES), want);
            }
        }
    }

    private static void p7Thing() {
        int[] whats = {OUT, WET, GOAL, TIMES};
        for (int what : whats) {
            noSuchThing("7: set(.., " + what + ", 1)", (x, i) -> x.set(i, what, 1));
        }
    }

    private static void refusedSet(int thing, int what, int v) {
        String call = "7: set(" + thing + ", " + what + ", " + v + ")";
        refused(call, Boundary::busy, x -> x.set(thing, what, v), BEYOND);
    }

    /** "OUT (what 2), WET (4), GOAL (5), TIMES (7)": no other what. */
    private static void p7Whats() {
        int[] others = {-1, 0, 1, 3, 6, 8, 9, 10, MIN, MAX};
        for (int what : others) {
            refusedSet(0, what, 1);
            refusedSet(7, what, 0);
        }
    }

    /** "OUT (0 to 9)", "WET (0 to 99)", "GOAL (a bearing)", "TIMES (.. held to 9999)" */
    private static void p7Values() {
        int[][] bounds = {{OUT, 9, 3}, {WET, 99, 0}, {GOAL, 59, 30}, {TIMES, 9999, 9999}};
        for (int[] b : bounds) {
            BeamSeats x = after(Boundary::busy);
            int was = b[2];
            int[] within = {0, 1, b[1] - 1, b[1], b[1]};
            for (int v : within) {
                due("7: set(7, " + b[0] + ", " + v + ")", x.set(7, b[0], v), was);
                due("7: of(7, " + b[0] + ")", x.of(7, b[0]), v);
                was = v;
            }
            int[] beyond = {-1, b[1] + 1, MIN, MAX};
            for (int v : beyond) {
                refusedSet(0, b[0], v);
                refusedSet(7, b[0], v);
            }
        }
    }

    /** An OUT that bears nothing is no refusal: what is ON stays so. */
    private static void p7OneOnStaysOn() {
        BeamSeats x = new BeamSeats();
        x.thing(GUEST, 0);
        x.lay(0);
        due("7: so far out", x.set(0, OUT, 9), 3);
        due("7: it is on", x.of(0, ON), 1);
        due("7: where only 2 are borne", x.load(9, 0), 2);
        due("7: and 5 lie", x.load(9, 1), 5);
    }

    private static void p8Thing() {
        noSuchThing("8: carry(.., 5)", (x, i) -> x.carry(i, 5));
    }

    /** "each AT a bearing (0 to 59)" */
    private static void p8Bearings() {
        BeamSeats x = after(Boundary::busy);
        int was = 12;
        for (int bearing = 0; bearing < 60; bearing++) {
            due("8: carry(1, " + bearing + ")", x.carry(1, bearing), was);
            due("8: it is there", x.of(1, AT), bearing);
            was = bearing;
        }
        int[] beyond = {-1, 60, MIN, MAX};
        for (int bearing : beyond) {
            refused("8: carry(1, " + bearing + ")", Boundary::busy, y -> y.carry(1, bearing), BEYOND);
        }
    }

    /** "STATE: it is ON", behind BEYOND. */
    private static void p8StateOn() {
        refused("8: one that is on", Boundary::busy, x -> x.carry(0, 5), STATE);
        refused("8: one that is on, to where it is", Boundary::busy, x -> x.carry(0, 7), STATE);
        refused("8: one that is on, below", Boundary::busy, x -> x.carry(0, -1), BEYOND);
        refused("8: one that is on, above", Boundary::busy, x -> x.carry(0, 60), BEYOND);
        BeamSeats x = after(Boundary::busy);
        x.take(0);
        due("8: once it is off", x.carry(0, 5), 7);
    }

    /** "not LOST any more": also at the bearing of the sea itself. */
    private static void p8NotLostAnyMore() {
        int[] bearings = {0, 57, 58, 59};
        for (int bearing : bearings) {
            BeamSeats x = after(Boundary::busy);
            due("8: at sea", x.of(6, LOST), 1);
            due("8: from the sea to " + bearing, x.carry(6, bearing), 58);
            due("8: it isn't lost", x.of(6, LOST), 0);
            due("8: nothing is", x.now(5), 0);
            due("8: it can be laid on", x.lay(6), 8);
        }
    }

    private static void p9Thing() {
        noSuchThing("9: turn(.., 1)", (x, i) -> x.turn(i, 1));
    }

    /** "KINDS: 0 .. 5" */
    private static void p9Kinds() {
        for (int kind = 0; kind < 6; kind++) {
            BeamSeats x = after(Boundary::busy);
            due("9: turn(7, " + kind + ")", x.turn(7, kind), WASH);
            due("9: it is", x.of(7, 0), kind);
            due("9: its WET stays", x.of(7, WET), 0);
            due("9: its TIMES stay", x.of(7, TIMES), 9999);
            due("9: one that is on", x.turn(0, kind), THING);
            due("9: is on", x.of(0, ON), 1);
            due("9: one at sea", x.turn(6, kind), THING);
            due("9: is lost", x.of(6, LOST), 1);
        }
        int[] others = {-1, 6, MIN, MAX};
        for (int kind : others) {
            refused("9: turn(0, " + kind + ")", Boundary::busy, x -> x.turn(0, kind), BEYOND);
            refused("9: turn(7, " + kind + ")", Boundary::busy, x -> x.turn(7, kind), BEYOND);
        }
    }

    private static void p10Thing() {
        noSuchThing("10: as(.., 0)", (x, i) -> x.as(i, 0));
    }

    /** "BEYOND: no such one, kind", before KIND. */
    private static void p10Kinds() {
        int[] others = {-1, 6, MIN, MAX};
        for (int kind : others) {
            refused("10: as(0, " + kind + ")", Boundary::busy, x -> x.as(0, kind), BEYOND);
            refused("10: as(8, " + kind + ")", Boundary::busy, x -> x.as(8, kind), BEYOND);
        }
        refused("10: no such one as a kind that no one is", Boundary::busy, x -> x.as(8, GUEST), BEYOND);
    }

    /** "KIND: it isn't of that kind, nor of one under it." */
    private static void p10KindOrUnderIt() {
        boolean[][] is = new boolean[6][6];
        for (int kind = 0; kind < 6; kind++) {
            is[kind][kind] = true;
            is[kind][THING] = true;
        }
        is[SHEET][WASH] = true;
        is[THIEF][RIDER] = true;
        for (int kind = 0; kind < 6; kind++) {
            for (int as = 0; as < 6; as++) {
                int one = kind;
                int other = as;
                String call = "10: kind " + kind + ", as(0, " + as + ")";
                if (is[kind][as]) {
                    looks(call, x -> x.thing(one, 0), x -> x.as(0, other), 50);
                } else {
                    refused(call, x -> x.thing(one, 0), x -> x.as(0, other), KIND);
                }
            }
        }
    }

    private static void p11Thing() {
        noSuchThing("11: lay(..)", (x, i) -> x.lay(i));
    }

    /** "STATE: it is ON, or LOST." */
    private static void p11StateOnOrLost() {
        int[] on = {0, 2, 3, 5};
        for (int i : on) {
            refused("11: lay(" + i + "), it is on", Boundary::busy, x -> x.lay(i), STATE);
        }
        refused("11: lay(6), it is lost", Boundary::busy, x -> x.lay(6), STATE);
    }

    private static void thinned(BeamSeats x) {
        busy(x);
        x.beam(THICK, 1);
    }

    /** STATE is asked before FULL; only one that is neither ON nor LOST is told FULL. */
    private static void p11StateBeforeFull() {
        refused("11: on, and too heavy", BoundaryThingsTest::thinned, x -> x.lay(0), STATE);
        refused("11: lost, and too heavy", BoundaryThingsTest::thinned, x -> x.lay(6), STATE);
        refused("11: too heavy", BoundaryThingsTest::thinned, x -> x.lay(4), FULL);
        refused("11: too heavy so far out", Boundary::busy, x -> x.lay(1), FULL);
    }

    /** "all that WEIGHS there together may be no more": just as much is borne, 1 less of THICK is not. */
    private static void p11JustBorne() {
        int[] weighs = {3, 3, 4, 5, 4, 2};
        for (int kind = 0; kind < 6; kind++) {
            for (int out = 0; out < 10; out += 3) {
                int one = kind;
                int there = out;
                int thick = weighs[kind] + 2 * out;
                String what = "11: kind " + kind + " at OUT " + out + ", THICK ";
                BeamSeats x = new BeamSeats();
                layable(x, kind, out, thick);
                due(what + thick, x.lay(0), weighs[kind]);
                refused(what + (thick - 1), y -> layable(y, one, there, thick - 1), y -> y.lay(0), FULL);
            }
        }
        BeamSeats x = new BeamSeats();
        x.thing(GUEST, 1);
        x.thing(RIDER, 1);
        x.lay(0);
        x.beam(THICK, 15);
        due("11: together just borne", x.lay(1), 9);
        refused("11: together 1 too many", y -> guestAndRider(y), y -> y.lay(1), FULL);
    }

    private static void layable(BeamSeats x, int kind, int out, int thick) {
        x.thing(kind, 1);
        x.set(0, OUT, out);
        x.beam(THICK, thick);
    }

    private static void guestAndRider(BeamSeats x) {
        x.thing(GUEST, 1);
        x.thing(RIDER, 1);
        x.lay(0);
        x.beam(THICK, 14);
    }

    private static void dryWashAtTheEnd(BeamSeats x) {
        x.thing(WASH, 1);
        x.set(0, WET, 0);
        x.set(0, OUT, 9);
        x.beam(THICK, 18);
    }

    /** "(0 at least)": where the beam bears 0 the lightest isn't borne; with 1 it is. */
    private static void p11BearsNothing() {
        refused("11: the beam bears 0", BoundaryThingsTest::dryWashAtTheEnd, x -> x.lay(0), FULL);
        BeamSeats x = after(BoundaryThingsTest::dryWashAtTheEnd);
        x.beam(THICK, 1);
        due("11: less than 0 would be borne", x.lay(0), FULL);
        x.beam(THICK, 19);
        due("11: the beam bears 1", x.lay(0), 1);
    }

    /** "bears at OUT o": what lies at another OUT takes nothing away. */
    private static void p11OnlyAtItsOut() {
        BeamSeats x = new BeamSeats();
        for (int i = 0; i < 3; i++) {
            x.thing(GUEST, 1);
            x.set(i, OUT, i);
        }
        x.beam(THICK, 9);
        due("11: at 0", x.lay(0), 5);
        due("11: at 1", x.lay(1), 5);
        due("11: at 2", x.lay(2), 5);
        due("11: all weigh", x.now(6), 15);
    }

    /** "TIMES (how often it came ON; 0 at first, held to 9999)" */
    private static void p11TimesAreHeld() {
        BeamSeats x = new BeamSeats();
        x.thing(THING, 1);
        x.set(0, TIMES, 9997);
        int[] due = {9998, 9999, 9999, 9999};
        for (int times : due) {
            x.lay(0);
            due("11: TIMES", x.of(0, TIMES), times);
            x.take(0);
            due("11: TIMES once off", x.of(0, TIMES), times);
        }
    }

    /** "AT the bearing of BEAM": wherever that is; no kind gets off or is lost by being laid there. */
    private static void p11LaidAnywhere() {
        int[] bearings = {0, 30, 38, 58, 59};
        for (int bearing : bearings) {
            for (int kind = 0; kind < 6; kind++) {
                BeamSeats x = new BeamSeats();
                x.thing(kind, 30);
                x.set(0, WET, 0);
                x.beam(BEAM, bearing);
                x.lay(0);
                due("11: kind " + kind + " laid at " + bearing + " is on", x.of(0, ON), 1);
                due("11: it is there", x.of(0, AT), bearing);
                due("11: it isn't lost", x.of(0, LOST), 0);
            }
        }
    }

    private static void p12Thing() {
        noSuchThing("12: take(..)", (x, i) -> x.take(i));
    }

    /** "STATE: it isn't ON.": also when it is LOST, or was taken off just now. */
    private static void p12StateNotOn() {
        int[] off = {1, 4, 6, 7};
        for (int i : off) {
            refused("12: take(" + i + ")", Boundary::busy, x -> x.take(i), STATE);
        }
        BeamSeats x = after(Boundary::busy);
        due("12: take(5)", x.take(5), 7);
        due("12: take(5) again", x.take(5), STATE);
    }

    /** "AT the bearing of BEAM: that.": 0, 58 and 59 among them; at 58 it isn't lost. */
    private static void p12WhereTheBeamIs() {
        int[] bearings = {0, 57, 58, 59};
        for (int bearing : bearings) {
            BeamSeats x = after(Boundary::busy);
            x.beam(BEAM, bearing);
            due("12: the beam at " + bearing, x.take(0), bearing);
            due("12: it is there", x.of(0, AT), bearing);
            due("12: it is off", x.of(0, ON), 0);
            due("12: it isn't lost", x.of(0, LOST), 0);
            due("12: the others are on", x.now(4), 44);
        }
    }
}
