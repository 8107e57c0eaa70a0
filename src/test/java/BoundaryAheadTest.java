/** The boundaries that promises 14 to 19 name: what is so in 0 to 400 seconds. */
public final class BoundaryAheadTest extends Boundary {
    public static void main(String[] args) {
        p14Thing();
        p14NIs0To400();
        p14Whats();
        p14AsSecondsGo();
        p14At400();
        p14TimesAreHeld();
        p15NIs0To400();
        p15Whats();
        p15NoneAndAll();
        p15At400();
        p16Thing();
        p16AtOnce();
        p16First();
        p16At400();
        p16None();
        p17Thing();
        p17AtOnce();
        p17First();
        p17At400();
        p17None();
        p18Thing();
        p18AtOnce();
        p18First();
        p18At400();
        p18None();
        p19Thing();
        p19AtOnce();
        p19First();
        p19At400();
        p19None();
        aheadGoesPastTheLastSecond();
        end();
    }

    /**
     * A sheet that is on for one second a round: with SPEED 1 from bearing 0 it comes on at 34 in second 34, goes off
     * at 35, comes on there in second 95, and so on: on at 34 + k in second 34 + 61 k. The thief AT 40 comes on with
     * it in second 400; a round before the sheet goes off at 40 ahead of it. Then there are two thieves, and they ride
     * on together.
     */
    private static void drift(BeamSeats x, int start) {
        x.thing(SHEET, 34);
        x.thing(THIEF, 40);
        x.thing(THIEF, 40);
        x.beam(SPEED, 1);
        x.beam(BEAM, start);
    }

    private static BeamSeats drifting(int start) {
        BeamSeats x = new BeamSeats();
        drift(x, start);
        return x;
    }

    private static void p14Thing() {
        for (int what = 0; what < 5; what++) {
            int one = what;
            noSuchThing("14: on(.., 0, " + what + ")", (x, i) -> x.on(i, 0, one));
            noSuchThing("14: on(.., 400, " + what + ")", (x, i) -> x.on(i, 400, one));
        }
    }

    /** "n SECONDS (0 to 400) AHEAD" */
    private static void p14NIs0To400() {
        int[] now = {7, 1, 12, 0, 1};
        int[] last = {58, 0, 0, 1, 1};
        for (int what = 0; what < 5; what++) {
            int one = what;
            looks("14: on(0, 0, " + what + ")", Boundary::busy, x -> x.on(0, 0, one), now[what]);
            looks("14: on(0, 400, " + what + ")", Boundary::busy, x -> x.on(0, 400, one), last[what]);
        }
        int[] beyond = {-1, 401, MIN, MAX};
        for (int n : beyond) {
            for (int what = 0; what < 5; what++) {
                int one = what;
                refused("14: on(0, " + n + ", " + what + ")", Boundary::busy, x -> x.on(0, n, one), BEYOND);
            }
        }
    }

    /** "Bearing (what 0), ON (1), WET (2), LOST (3), TIMES (4)": no other what. */
    private static void p14Whats() {
        int[] others = {-1, 5, MIN, MAX};
        for (int what : others) {
            refused("14: on(0, 0, " + what + ")", Boundary::busy, x -> x.on(0, 0, what), BEYOND);
            refused("14: on(7, 400, " + what + ")", Boundary::busy, x -> x.on(7, 400, what), BEYOND);
        }
    }

    /** "AHEAD: n SECONDS go on with all as it is": what on() tells is what of() tells once they have gone. */
    private static void p14AsSecondsGo() {
        int[] asOf = {AT, ON, WET, LOST, TIMES};
        int[] ns = {1, 2, 17, 18, 60, 199, 200, 399, 400};
        for (int n : ns) {
            BeamSeats x = after(Boundary::busy);
            BeamSeats gone = after(Boundary::busy);
            for (int left = n; left > 0; left -= Math.min(left, 200)) {
                gone.seconds(Math.min(left, 200));
            }
            for (int i = 0; i < 8; i++) {
                for (int what = 0; what < 5; what++) {
                    due("14: on(" + i + ", " + n + ", " + what + ")", x.on(i, n, what), gone.of(i, asOf[what]));
                }
            }
        }
    }

    /** Just the 400th second: the thief comes on with it. */
    private static void p14At400() {
        BeamSeats x = drifting(0);
        int[] before = {40, 0, 50, 0, 0};
        int[] last = {40, 1, 49, 0, 1};
        for (int what = 0; what < 5; what++) {
            due("14: on(1, 399, " + what + ")", x.on(1, 399, what), before[what]);
            due("14: on(1, 400, " + what + ")", x.on(1, 400, what), last[what]);
        }
    }

    private static void p14TimesAreHeld() {
        BeamSeats x = new BeamSeats();
        x.thing(WASH, 2);
        x.set(0, TIMES, 9999);
        due("14: it is on", x.on(0, 1, 1), 1);
        due("14: TIMES are held ahead", x.on(0, 1, 4), 9999);
        x.set(0, TIMES, 9998);
        due("14: TIMES come to 9999", x.on(0, 1, 4), 9999);
    }

    /** "n SECONDS (0 to 400) AHEAD" */
    private static void p15NIs0To400() {
        looks("15: then(0, 0)", Boundary::busy, x -> x.then(0, 0), 4);
        looks("15: then(0, 1)", Boundary::busy, x -> x.then(0, 1), 1);
        // none is on so long; 0 and 6 are lost and, having come on at 39, the guest
        looks("15: then(400, 0)", Boundary::busy, x -> x.then(400, 0), 0);
        looks("15: then(400, 1)", Boundary::busy, x -> x.then(400, 1), 3);
        int[] beyond = {-1, 401, MIN, MAX};
        for (int n : beyond) {
            refused("15: then(" + n + ", 0)", Boundary::busy, x -> x.then(n, 0), BEYOND);
            refused("15: then(" + n + ", 1)", Boundary::busy, x -> x.then(n, 1), BEYOND);
        }
    }

    /** "How many are ON (what 0), LOST (1)": no other what. */
    private static void p15Whats() {
        int[] others = {-1, 2, MIN, MAX};
        for (int what : others) {
            refused("15: then(0, " + what + ")", Boundary::busy, x -> x.then(0, what), BEYOND);
            refused("15: then(400, " + what + ")", Boundary::busy, x -> x.then(400, what), BEYOND);
        }
    }

    private static void allOn(BeamSeats x) {
        for (int i = 0; i < 8; i++) {
            x.thing(THING, 0);
            x.set(i, OUT, i / 4);
            x.lay(i);
        }
    }

    /** None of none, none of eight, all of eight; the bearing before the sea and the sea. */
    private static void p15NoneAndAll() {
        looks("15: on, where none is", Boundary::nothing, x -> x.then(400, 0), 0);
        looks("15: lost, where none is", Boundary::nothing, x -> x.then(400, 1), 0);
        looks("15: all on", BoundaryAheadTest::allOn, x -> x.then(0, 0), 8);
        looks("15: all on still", BoundaryAheadTest::allOn, x -> x.then(28, 0), 8);
        looks("15: none lost yet", BoundaryAheadTest::allOn, x -> x.then(28, 1), 0);
        looks("15: none on", BoundaryAheadTest::allOn, x -> x.then(29, 0), 0);
        looks("15: all lost", BoundaryAheadTest::allOn, x -> x.then(29, 1), 8);
    }

    /** Just the 400th second: sheet and thieves are on; from 18 it is the sea's. */
    private static void p15At400() {
        BeamSeats x = drifting(0);
        due("15: then(399, 0)", x.then(399, 0), 0);
        due("15: then(400, 0)", x.then(400, 0), 3);
        x = drifting(18);
        due("15: then(399, 1)", x.then(399, 1), 0);
        due("15: then(400, 1)", x.then(400, 1), 1);
    }

    private static void p16Thing() {
        noSuchThing("16: gets(..)", (x, i) -> x.gets(i));
    }

    /** "(0 to 400)": 0 for one that is ON. */
    private static void p16AtOnce() {
        looks("16: gets(0), it is on", Boundary::busy, x -> x.gets(0), 0);
        looks("16: gets(5), it is on", Boundary::busy, x -> x.gets(5), 0);
        looks("16: a wash in the first second", x -> x.thing(WASH, 1), x -> x.gets(0), 1);
        looks("16: at the last bearing of it", x -> x.thing(WASH, 2), x -> x.gets(0), 1);
        looks("16: at the first of the next", x -> x.thing(WASH, 3), x -> x.gets(0), 2);
        looks("16: the last of the round", x -> x.thing(WASH, 59), x -> x.gets(0), 30);
    }

    /** "is ON first": the first of several times, and not when it is off again within the second. */
    private static void p16First() {
        BeamSeats x = new BeamSeats();
        x.thing(SHEET, 33);
        x.beam(SPEED, 1);
        due("16: on first at 33", x.gets(0), 33);
        due("16: it is off", x.on(0, 94, 1), 0);
        due("16: and on again", x.on(0, 95, 1), 1);
        x = new BeamSeats();
        x.thing(RIDER, 1);
        x.set(0, GOAL, 2);
        due("16: on and off in the same second", x.gets(0), NONE);
        x.set(0, GOAL, 3);
        due("16: off in the next", x.gets(0), 1);
    }

    /** The 400th second, and the 401st. */
    private static void p16At400() {
        looks("16: in 400", x -> drift(x, 0), x -> x.gets(1), 400);
        looks("16: in 399", x -> drift(x, 1), x -> x.gets(1), 399);
        refused("16: in 401", x -> drift(x, 59), x -> x.gets(1), NONE);
    }

    private static void p16None() {
        refused("16: a thing never", x -> x.thing(THING, 1), x -> x.gets(0), NONE);
        refused("16: one at sea never", Boundary::busy, x -> x.gets(6), NONE);
        refused("16: a dry wash never", Boundary::busy, x -> x.gets(7), NONE);
        refused("16: one too heavy never", Boundary::busy, x -> x.gets(1), NONE);
    }

    private static void p17Thing() {
        noSuchThing("17: dry(..)", (x, i) -> x.dry(i));
    }

    /** "(0 to 400)": 0 for one of WET 0, on or not. */
    private static void p17AtOnce() {
        looks("17: dry(7)", Boundary::busy, x -> x.dry(7), 0);
        BeamSeats x = after(Boundary::busy);
        x.set(0, WET, 0);
        due("17: dry(0), it is on", x.dry(0), 0);
        x.set(0, WET, 1);
        due("17: WET 1", x.dry(0), 1);
        x.set(0, WET, 2);
        due("17: WET 2", x.dry(0), 2);
    }

    /** "WET of one is 0 first": 4, 8, .. less; just 0, and 1 more. */
    private static void p17First() {
        int[][] wets = {{3, 1}, {4, 1}, {5, 2}, {8, 2}, {9, 3}, {99, 25}};
        for (int[] w : wets) {
            BeamSeats x = new BeamSeats();
            x.thing(WASH, 1);
            x.set(0, WET, w[0]);
            due("17: a wash of WET " + w[0], x.dry(0), w[1]);
        }
    }

    private static void driftOfWet(BeamSeats x, int start, int wet) {
        drift(x, start);
        x.set(0, WET, wet);
    }

    /** 4 less in each of seven rounds: the last of them in second 400, or one behind, or WET 1 too much. */
    private static void p17At400() {
        looks("17: in 400", x -> driftOfWet(x, 0, 28), x -> x.dry(0), 400);
        looks("17: in 399", x -> driftOfWet(x, 1, 28), x -> x.dry(0), 399);
        refused("17: in 401", x -> driftOfWet(x, 59, 28), x -> x.dry(0), NONE);
        refused("17: a round later", x -> driftOfWet(x, 0, 29), x -> x.dry(0), NONE);
    }

    private static void p17None() {
        refused("17: one that isn't on never", Boundary::busy, x -> x.dry(1), NONE);
        refused("17: a guest never", Boundary::busy, x -> x.dry(3), NONE);
        refused("17: one at sea never", Boundary::busy, x -> x.dry(6), NONE);
    }

    private static void p18Thing() {
        noSuchThing("18: lost(..)", (x, i) -> x.lost(i));
    }

    private static void p18AtOnce() {
        looks("18: lost(6)", Boundary::busy, x -> x.lost(6), 0);
    }

    private static void laidAt(BeamSeats x, int bearing) {
        x.thing(THING, 5);
        x.beam(BEAM, bearing);
        x.lay(0);
    }

    /** "one is LOST first": with SPEED 2, from all about 58. */
    private static void p18First() {
        int[][] laid = {{57, 1}, {56, 1}, {55, 2}, {54, 2}, {59, 30}, {58, 30}, {0, 29}};
        for (int[] l : laid) {
            looks("18: laid at " + l[0], x -> laidAt(x, l[0]), x -> x.lost(0), l[1]);
        }
    }

    /** The thieves ride on to 58 in second 400, and in 401; the second of them is alone then, and off. */
    private static void p18At400() {
        looks("18: in 400", x -> drift(x, 18), x -> x.lost(1), 400);
        looks("18: in 399", x -> drift(x, 19), x -> x.lost(1), 399);
        refused("18: in 401", x -> drift(x, 17), x -> x.lost(1), NONE);
        refused("18: the other", x -> drift(x, 18), x -> x.lost(2), NONE);
    }

    private static void p18None() {
        refused("18: one that isn't on", Boundary::busy, x -> x.lost(7), NONE);
        refused("18: a rider whose goal comes first", Boundary::busy, x -> x.lost(2), NONE);
    }

    private static void p19Thing() {
        noSuchThing("19: arrives(..)", (x, i) -> x.arrives(i));
    }

    private static void off(BeamSeats x, int bearing) {
        x.thing(THING, bearing);
    }

    /** "AT its GOAL, and not ON": 0 if so now; beside it, or ON there, it isn't. */
    private static void p19AtOnce() {
        looks("19: AT its goal", x -> off(x, 30), x -> x.arrives(0), 0);
        refused("19: beside it", x -> off(x, 29), x -> x.arrives(0), NONE);
        refused("19: on the other side", x -> off(x, 31), x -> x.arrives(0), NONE);
        refused("19: AT it, but ON", x -> laidAt(x, 30), x -> x.arrives(0), NONE);
        BeamSeats x = new BeamSeats();
        laidAt(x, 30);
        x.take(0);
        due("19: taken off there", x.arrives(0), 0);
    }

    private static void riderAt(BeamSeats x, int bearing, int goal) {
        x.thing(RIDER, bearing);
        x.set(0, GOAL, goal);
    }

    /** With SPEED 2: in the same second, in the next, over 0, and at the sea's own bearing. */
    private static void p19First() {
        int[][] ways = {{1, 2, 1}, {1, 3, 2}, {1, 57, 29}, {1, 58, 29}, {58, 59, 30}, {59, 0, 30}, {58, 57, 59}, {1, 1, 0}};
        for (int[] w : ways) {
            looks("19: from " + w[0] + " to " + w[1], x -> riderAt(x, w[0], w[1]), x -> x.arrives(0), w[2]);
        }
        refused("19: the sea comes first", x -> riderAt(x, 1, 59), x -> x.arrives(0), NONE);
        BeamSeats x = new BeamSeats();
        laidAt(x, 50);
        x.set(0, GOAL, 58);
        due("19: one that is lost at its goal is AT it, and not ON", x.arrives(0), 4);
    }

    private static void driftTo(BeamSeats x, int start) {
        drift(x, start);
        x.set(0, GOAL, 41);
    }

    /** The sheet goes off at 41 in second 401 from 0. */
    private static void p19At400() {
        looks("19: in 400", x -> driftTo(x, 1), x -> x.arrives(0), 400);
        looks("19: in 399", x -> driftTo(x, 2), x -> x.arrives(0), 399);
        refused("19: in 401", x -> driftTo(x, 0), x -> x.arrives(0), NONE);
    }

    private static void p19None() {
        refused("19: one at sea elsewhere", Boundary::busy, x -> x.arrives(6), NONE);
        refused("19: a thing that is on", Boundary::busy, x -> x.arrives(0), NONE);
        refused("19: one that stays off", Boundary::busy, x -> x.arrives(7), NONE);
    }

    /** SECOND has an end at 99999, AHEAD names none: "n SECONDS go on with all as it is". */
    private static void aheadGoesPastTheLastSecond() {
        BeamSeats x = new BeamSeats();
        for (int k = 0; k < 499; k++) {
            x.seconds(200);
        }
        x.seconds(199);
        // the beam is at 199998 % 60 = 18
        x.thing(WASH, 20);
        due("14: on(0, 1, 1) past the last second", x.on(0, 1, 1), 1);
        due("15: then(400, 0) past the last second", x.then(400, 0), 0);
        due("16: gets(0) past the last second", x.gets(0), 1);
        due("17: dry(0) past the last second", x.dry(0), 13);
        due("13: but no second goes", x.seconds(1), STATE);
        due("3: SECOND", x.now(0), 99999);
    }
}
