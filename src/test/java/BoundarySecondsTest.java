/** The boundaries that promise 13 and the Terms of a SECOND name: how a second goes, for each kind, and how many may go. */
public final class BoundarySecondsTest extends Boundary {
    public static void main(String[] args) {
        p13NIs1To200();
        p13SecondAtMost99999();
        p13StateGoesNoSecond();
        p13BeyondBeforeState();
        p13RoundTheRing();
        p13FirstAndLastBearing();
        p13WhereTheBeamIsWaitsARound();
        p13ThingNeverGetsOnOrOff();
        p13WashGetsOn();
        p13WashGetsOff();
        p13RiderGetsOn();
        p13RiderGetsOff();
        p13RiderLaidAtItsGoal();
        p13GuestGetsOn();
        p13GuestGetsOff();
        p13SheetGetsOn();
        p13SheetGetsOff();
        p13ThiefGetsOn();
        p13ThiefGetsOff();
        p13SeaIs58();
        p13SeaIsPassed();
        p13GettingOffComesBeforeTheSea();
        p13ThiefAtTheSea();
        p13ComesOnAt58();
        p13LostStaysAtSea();
        p13JustBorne();
        p13JustBorneTogether();
        p13RoomByNumbers();
        p13WetNotBelow0();
        p13OnAndOffInOneSecond();
        p13TimesAreHeld();
        p13AllThatRideAreAtTheBeam();
        p13Empty();
        end();
    }

    /** "n SECONDS go (1 to 200)" */
    private static void p13NIs1To200() {
        BeamSeats x = new BeamSeats();
        due("13: seconds(1)", x.seconds(1), 0);
        due("13: SECOND", x.now(0), 1);
        due("13: BEAM", x.now(1), 2);
        due("13: seconds(200)", x.seconds(200), 0);
        due("13: SECOND", x.now(0), 201);
        due("13: BEAM", x.now(1), 402 % 60);
        due("13: seconds(199)", x.seconds(199), 0);
        due("13: SECOND", x.now(0), 400);
        int[] beyond = {0, -1, 201, MIN, MAX};
        for (int n : beyond) {
            refused("13: seconds(" + n + ")", Boundary::busy, y -> y.seconds(n), BEYOND);
            refused("13: seconds(" + n + ")", Boundary::nothing, y -> y.seconds(n), BEYOND);
        }
    }

    /** 499 calls: SECOND 99800, the beam at 199600 % 60 = 40. */
    private static BeamSeats late() {
        BeamSeats x = new BeamSeats();
        for (int k = 0; k < 499; k++) {
            x.seconds(200);
        }
        return x;
    }

    /** "SECOND: .. (99999 at most)", "STATE: SECOND would be above 99999." */
    private static void p13SecondAtMost99999() {
        BeamSeats x = late();
        due("13: SECOND late", x.now(0), 99800);
        due("13: to 100000", x.seconds(200), STATE);
        due("13: to 99999", x.seconds(199), 0);
        due("13: SECOND at most", x.now(0), 99999);
        due("13: one more", x.seconds(1), STATE);
        due("13: many more", x.seconds(200), STATE);
        due("13: SECOND at most", x.now(0), 99999);
        x = late();
        due("13: to 99998", x.seconds(198), 0);
        due("13: two more", x.seconds(2), STATE);
        due("13: one more", x.seconds(1), 0);
        due("13: SECOND at most", x.now(0), 99999);
    }

    /** A refused call goes not even the seconds that there were; SECOND, the beam and a rider are as they were. */
    private static void p13StateGoesNoSecond() {
        int[] now = {99800, 40, 2, 20, 1, 0, 4};
        BeamSeats x = late();
        x.thing(RIDER, 1);
        x.lay(0);
        due("13: refused", x.seconds(200), STATE);
        for (int what = 0; what < 7; what++) {
            due("13: refused, now(" + what + ")", x.now(what), now[what]);
        }
        x = late();
        x.thing(RIDER, 1);
        x.lay(0);
        due("13: refused", x.seconds(200), STATE);
        int[] of = {RIDER, 40, 3, 1, 50, 30, 0, 1, 4};
        for (int what = 0; what < of.length; what++) {
            due("13: refused, of(0, " + what + ")", x.of(0, what), of[what]);
        }
        x = late();
        x.seconds(200);
        int[] status = {1, 0, 0, 0, 0, 1, 0, 0};
        for (int which = -1; which < 7; which++) {
            due("13: refused, status(" + which + ")", x.status(which), status[which + 1]);
        }
    }

    private static void p13BeyondBeforeState() {
        BeamSeats x = late();
        x.seconds(199);
        int[] beyond = {0, -1, 201, MIN, MAX};
        for (int n : beyond) {
            due("13: at the last SECOND, seconds(" + n + ")", x.seconds(n), BEYOND);
        }
        due("13: no STATE", x.status(4), 0);
        due("13: BEYOND", x.status(0), 5);
    }

    /** "(59 is followed by 0)" */
    private static void p13RoundTheRing() {
        int[][] rounds = {{58, 1, 59}, {59, 1, 0}, {58, 2, 0}, {57, 2, 59}, {49, 10, 59}, {50, 10, 0}, {51, 10, 1},
            {59, 10, 9}, {0, 10, 10}, {0, 1, 1}};
        for (int[] r : rounds) {
            BeamSeats x = new BeamSeats();
            x.beam(BEAM, r[0]);
            x.beam(SPEED, r[1]);
            x.seconds(1);
            due("13: from " + r[0] + " with SPEED " + r[1], x.now(1), r[2]);
        }
        BeamSeats x = new BeamSeats();
        x.beam(SPEED, 7);
        x.seconds(60);
        due("13: seven whole rounds", x.now(1), 0);
    }

    /** With SPEED 5 from a bearing the five behind it come by, not that bearing itself, nor the sixth. */
    private static void p13FirstAndLastBearing() {
        int[] starts = {10, 57, 59, 55};
        for (int start : starts) {
            BeamSeats x = new BeamSeats();
            x.beam(SPEED, 5);
            x.beam(BEAM, start);
            int[] ahead = {0, 1, 5, 6};
            for (int i = 0; i < 4; i++) {
                x.thing(WASH, (start + ahead[i]) % 60);
                x.set(i, OUT, i);
            }
            // from 57 one comes on at 58 and rides on; from 55 one comes on at 56 and is lost at 58
            due("13: come on from " + start, x.seconds(1), start == 55 ? 4 : 6);
            due("13: lost from " + start, x.now(5), start == 55 ? 2 : 0);
            int[] times = {0, 1, 1, 0};
            for (int i = 0; i < 4; i++) {
                due("13: from " + start + ", TIMES of the one " + ahead[i] + " ahead", x.of(i, TIMES), times[i]);
            }
        }
    }

    /** One AT the bearing where the beam is isn't passed before a whole round. */
    private static void p13WhereTheBeamIsWaitsARound() {
        int[][] rounds = {{1, 60}, {2, 30}, {10, 6}};
        for (int[] r : rounds) {
            BeamSeats x = new BeamSeats();
            x.thing(WASH, 20);
            x.beam(BEAM, 20);
            x.beam(SPEED, r[0]);
            due("13: SPEED " + r[0] + ", the round isn't whole", x.seconds(r[1] - 1), 0);
            due("13: SPEED " + r[0] + ", the round is whole", x.seconds(1), 1);
        }
    }

    /** "GETS ON: THING: no", "GETS OFF: THING: never" */
    private static void p13ThingNeverGetsOnOrOff() {
        BeamSeats x = new BeamSeats();
        x.thing(THING, 5);
        due("13: a thing in a hundred seconds", x.seconds(100), 0);
        due("13: it is where it was", x.of(0, AT), 5);
        x.beam(BEAM, 58);
        x.beam(SPEED, 1);
        x.set(0, WET, 0);
        x.set(0, GOAL, 20);
        x.lay(0);
        due("13: a dry thing, past its goal, alone, to the bearing before the sea", x.seconds(59), 1);
        due("13: there", x.of(0, AT), 57);
        due("13: only the sea takes it", x.seconds(1), 0);
        due("13: lost", x.now(5), 1);
    }

    private static BeamSeats one(int kind, int bearing, int speed) {
        BeamSeats x = new BeamSeats();
        x.thing(kind, bearing);
        x.beam(SPEED, speed);
        return x;
    }

    /** "WASH: if WET is above 0" */
    private static void p13WashGetsOn() {
        int[][] wets = {{0, 0}, {1, 1}, {99, 1}};
        for (int[] w : wets) {
            BeamSeats x = one(WASH, 1, 1);
            x.set(0, WET, w[0]);
            due("13: a wash of WET " + w[0], x.seconds(1), w[1]);
            due("13: its TIMES", x.of(0, TIMES), w[1]);
        }
    }

    /** "WASH: if WET is 0": off at the next bearing; WET 1 is not yet. */
    private static void p13WashGetsOff() {
        BeamSeats x = one(WASH, 9, 3);
        x.set(0, WET, 5);
        x.lay(0);
        due("13: WET 5", x.seconds(1), 1);
        due("13: WET is 1", x.of(0, WET), 1);
        due("13: it is on still", x.seconds(1), 1);
        due("13: WET is 0", x.of(0, WET), 0);
        due("13: it is off", x.seconds(1), 0);
        due("13: at the first bearing of that second", x.of(0, AT), 7);
        x = one(WASH, 9, 1);
        x.set(0, WET, 0);
        x.lay(0);
        due("13: a dry one that was laid on", x.seconds(1), 0);
        due("13: at 1", x.of(0, AT), 1);
    }

    /** "RIDER: if it isn't AT its GOAL" */
    private static void p13RiderGetsOn() {
        int[][] goals = {{19, 1}, {20, 0}, {21, 1}, {0, 1}, {59, 1}};
        for (int[] g : goals) {
            BeamSeats x = one(RIDER, 20, 1);
            x.beam(BEAM, 19);
            x.set(0, GOAL, g[0]);
            due("13: a rider AT 20, GOAL " + g[0], x.seconds(1), g[1]);
        }
    }

    /** "RIDER: if b is its GOAL": there, not where the beam stops, also over 0. */
    private static void p13RiderGetsOff() {
        BeamSeats x = one(RIDER, 20, 1);
        x.lay(0);
        due("13: to the bearing before", x.seconds(29), 1);
        due("13: at the goal", x.seconds(1), 0);
        due("13: there", x.of(0, AT), 30);
        int[][] goals = {{50, 55, 10, 0, 55}, {50, 51, 10, 0, 51}, {59, 0, 10, 0, 0}, {59, 9, 10, 0, 9}, {59, 10, 10, 1, 9},
            {58, 59, 5, 0, 59}, {58, 3, 5, 0, 3}, {58, 4, 5, 1, 3}};
        for (int[] g : goals) {
            x = one(RIDER, 20, g[2]);
            x.beam(BEAM, g[0]);
            x.set(0, GOAL, g[1]);
            x.lay(0);
            due("13: from " + g[0] + " to GOAL " + g[1], x.seconds(1), g[3]);
            due("13: it is at", x.of(0, AT), g[4]);
        }
    }

    /** The bearing of the goal counts as the beam comes to it, not where it is at first. */
    private static void p13RiderLaidAtItsGoal() {
        BeamSeats x = one(RIDER, 5, 1);
        x.beam(BEAM, 59);
        x.set(0, GOAL, 59);
        x.lay(0);
        due("13: laid at its goal it rides on", x.seconds(1), 1);
        due("13: to 57", x.seconds(57), 1);
        due("13: and the sea comes before", x.seconds(1), 0);
        due("13: lost", x.of(0, LOST), 1);
    }

    /** "GUEST: if fewer than 3 others are ON" */
    private static void p13GuestGetsOn() {
        for (int others = 0; others < 5; others++) {
            BeamSeats x = one(GUEST, 1, 1);
            for (int i = 1; i <= 4; i++) {
                x.thing(THING, 50);
                x.set(i, OUT, 0);
            }
            for (int i = 1; i <= others; i++) {
                x.lay(i);
            }
            x.seconds(1);
            due("13: a guest with " + others + " others", x.of(0, ON), others < 3 ? 1 : 0);
        }
    }

    /** "GUEST: if b is 38 or 39" */
    private static void p13GuestGetsOff() {
        int[][] laid = {{35, 1, 36}, {36, 1, 37}, {37, 0, 38}, {38, 0, 39}, {39, 1, 40}, {40, 1, 41}, {59, 1, 0}};
        for (int[] l : laid) {
            BeamSeats x = one(GUEST, 5, 1);
            x.beam(BEAM, l[0]);
            x.lay(0);
            due("13: a guest laid at " + l[0], x.seconds(1), l[1]);
            due("13: it is at", x.of(0, AT), l[2]);
        }
        BeamSeats x = one(GUEST, 5, 10);
        x.beam(BEAM, 30);
        x.lay(0);
        due("13: a guest that passes 38 and 39", x.seconds(1), 0);
        due("13: is off at 38", x.of(0, AT), 38);
        x = one(GUEST, 39, 1);
        x.beam(BEAM, 38);
        due("13: one that comes on at 39 has no way off", x.seconds(19), 1);
        due("13: but the sea", x.seconds(1), 0);
        due("13: lost", x.of(0, LOST), 1);
    }

    /** "SHEET: as WASH, but not with SPEED above 5" */
    private static void p13SheetGetsOn() {
        for (int speed = 1; speed <= 10; speed++) {
            BeamSeats x = one(SHEET, 1, speed);
            due("13: a sheet with SPEED " + speed, x.seconds(1), speed <= 5 ? 1 : 0);
        }
        int[][] wets = {{0, 0}, {1, 1}, {99, 1}};
        for (int[] w : wets) {
            BeamSeats x = one(SHEET, 1, 5);
            x.set(0, WET, w[0]);
            due("13: a sheet of WET " + w[0], x.seconds(1), w[1]);
            due("13: its TIMES", x.of(0, TIMES), w[1]);
        }
    }

    /** "SHEET: as WASH, or if b is 35 or more" */
    private static void p13SheetGetsOff() {
        int[][] laid = {{32, 1, 33}, {33, 1, 34}, {34, 0, 35}, {35, 0, 36}, {56, 0, 57}, {57, 0, 58}, {58, 0, 59}, {59, 1, 0},
            {0, 1, 1}};
        for (int[] l : laid) {
            BeamSeats x = one(SHEET, 5, 1);
            x.beam(BEAM, l[0]);
            x.lay(0);
            due("13: a sheet laid at " + l[0], x.seconds(1), l[1]);
            due("13: it is at", x.of(0, AT), l[2]);
            due("13: it isn't lost", x.of(0, LOST), 0);
        }
        BeamSeats x = one(SHEET, 5, 6);
        x.lay(0);
        due("13: one that is on stays with SPEED 6", x.seconds(1), 1);
        x.set(0, WET, 0);
        due("13: a dry one goes off before 35", x.seconds(1), 0);
        due("13: at 7", x.of(0, AT), 7);
        x = one(SHEET, 59, 5);
        x.beam(BEAM, 54);
        due("13: one comes on at 35 or more", x.seconds(1), 1);
        due("13: and over 0 it stays", x.seconds(1), 1);
    }

    /** "THIEF: as RIDER, if something else is ON" */
    private static void p13ThiefGetsOn() {
        BeamSeats x = one(THIEF, 1, 1);
        x.thing(THING, 50);
        due("13: a thief alone", x.seconds(1), 0);
        x.beam(BEAM, 0);
        x.lay(1);
        due("13: a thief with one on", x.seconds(1), 3);
        x = one(THIEF, 1, 1);
        x.thing(THING, 50);
        x.set(0, GOAL, 1);
        x.lay(1);
        due("13: a thief AT its goal", x.seconds(1), 2);
        x = one(THIEF, 1, 1);
        x.thing(WASH, 1);
        due("13: who comes on behind it is no help", x.seconds(1), 2);
        x = one(WASH, 1, 1);
        x.thing(THIEF, 1);
        due("13: who comes on before it is", x.seconds(1), 3);
    }

    /** "THIEF: as RIDER, or if nothing else is ON" */
    private static void p13ThiefGetsOff() {
        BeamSeats x = one(THIEF, 50, 1);
        x.lay(0);
        due("13: a thief alone is off", x.seconds(1), 0);
        due("13: at 1", x.of(0, AT), 1);
        x = one(THIEF, 50, 1);
        x.thing(THING, 50);
        x.set(0, GOAL, 2);
        x.lay(0);
        x.lay(1);
        due("13: with another it stays", x.seconds(1), 3);
        due("13: but not at its goal", x.seconds(1), 2);
        due("13: at 2", x.of(0, AT), 2);
    }

    /** "(b) one ON it, if the bearing is 58, is off, AT 58, and LOST" */
    private static void p13SeaIs58() {
        int[][] laid = {{55, 1, 56, 0}, {56, 1, 57, 0}, {57, 0, 58, 1}, {58, 1, 59, 0}, {59, 1, 0, 0}};
        for (int[] l : laid) {
            BeamSeats x = one(THING, 5, 1);
            x.beam(BEAM, l[0]);
            x.lay(0);
            due("13: a thing laid at " + l[0], x.seconds(1), l[1]);
            due("13: it is at", x.of(0, AT), l[2]);
            due("13: lost", x.of(0, LOST), l[3]);
            due("13: lost, as a set", x.now(5), l[3]);
        }
    }

    /** With a SPEED above 1 the sea is passed, not stopped at: one is AT 58 and dries no more. */
    private static void p13SeaIsPassed() {
        for (int speed = 2; speed <= 10; speed++) {
            BeamSeats x = one(RIDER, 5, speed);
            x.beam(BEAM, 57);
            x.set(0, GOAL, 59);
            x.lay(0);
            due("13: past the sea with SPEED " + speed, x.seconds(1), 0);
            due("13: it is at 58", x.of(0, AT), 58);
            due("13: it is lost", x.of(0, LOST), 1);
            due("13: as wet as before", x.of(0, WET), 50);
        }
    }

    /** "(a) one ON it that GETS OFF there is off ..; else (b)" */
    private static void p13GettingOffComesBeforeTheSea() {
        int[] kinds = {RIDER, SHEET, WASH, THIEF};
        for (int kind : kinds) {
            BeamSeats x = one(kind, 5, 1);
            x.beam(BEAM, 57);
            x.set(0, WET, kind == WASH ? 0 : 50);
            x.set(0, GOAL, kind == RIDER ? 58 : 30);
            x.lay(0);
            due("13: kind " + kind + " goes off at 58", x.seconds(1), 0);
            due("13: it is there", x.of(0, AT), 58);
            due("13: it isn't lost", x.of(0, LOST), 0);
        }
        int[] others = {THING, RIDER, GUEST, WASH};
        for (int kind : others) {
            BeamSeats x = one(kind, 5, 1);
            x.beam(BEAM, 57);
            x.set(0, WET, 1);
            x.lay(0);
            due("13: kind " + kind + " doesn't", x.seconds(1), 0);
            due("13: it is lost", x.of(0, LOST), 1);
        }
    }

    /** "THINGS by numbers": behind one that is lost a thief is alone and goes off; before it, it is lost too. */
    private static void p13ThiefAtTheSea() {
        int[][] orders = {{THING, THIEF, 1}, {THIEF, THING, 3}, {THIEF, THIEF, 1}};
        for (int[] o : orders) {
            BeamSeats x = one(o[0], 5, 1);
            x.thing(o[1], 5);
            x.beam(BEAM, 57);
            x.lay(0);
            x.lay(1);
            due("13: none is on behind the sea", x.seconds(1), 0);
            due("13: lost of kinds " + o[0] + " and " + o[1], x.now(5), o[2]);
        }
    }

    /** "(c)": one that comes ON at 58 isn't lost with that bearing; a round later it is. */
    private static void p13ComesOnAt58() {
        BeamSeats x = one(WASH, 58, 10);
        x.set(0, WET, 99);
        x.set(0, OUT, 0);
        x.beam(BEAM, 48);
        due("13: it comes on at 58", x.seconds(1), 1);
        due("13: it isn't lost", x.of(0, LOST), 0);
        due("13: nearly a round", x.seconds(5), 1);
        due("13: a round", x.seconds(1), 0);
        due("13: it is lost", x.of(0, LOST), 1);
        due("13: 6 seconds' drying", x.of(0, WET), 81);
    }

    /** "isn't LOST": one at sea is passed by for ever, till it is carried. */
    private static void p13LostStaysAtSea() {
        BeamSeats x = one(RIDER, 5, 1);
        x.beam(BEAM, 57);
        x.lay(0);
        x.seconds(1);
        due("13: lost", x.now(5), 1);
        due("13: two rounds", x.seconds(120), 0);
        due("13: its TIMES", x.of(0, TIMES), 1);
        x.carry(0, 58);
        due("13: carried, it waits for the beam", x.seconds(59), 0);
        due("13: and comes on", x.seconds(1), 1);
    }

    /** "the beam BEARS at its OUT what it WEIGHS": just as much, and 1 less. */
    private static void p13JustBorne() {
        int[][] kinds = {{WASH, 3}, {RIDER, 4}, {GUEST, 5}, {SHEET, 4}};
        for (int[] k : kinds) {
            for (int out = 0; out < 10; out += 3) {
                BeamSeats x = one(k[0], 1, 1);
                x.set(0, OUT, out);
                x.beam(THICK, k[1] + 2 * out);
                due("13: kind " + k[0] + " at OUT " + out + " is borne", x.seconds(1), 1);
                x = one(k[0], 1, 1);
                x.set(0, OUT, out);
                x.beam(THICK, k[1] + 2 * out - 1);
                due("13: kind " + k[0] + " at OUT " + out + " isn't", x.seconds(1), 0);
                due("13: its TIMES", x.of(0, TIMES), 0);
            }
        }
    }

    /** "with what is ON there already": two just borne, or only the first; what lies elsewhere is nothing to it. */
    private static void p13JustBorneTogether() {
        int[][] thicks = {{14, 3}, {13, 1}, {10, 1}, {9, 0}};
        for (int[] t : thicks) {
            BeamSeats x = one(RIDER, 1, 1);
            x.thing(RIDER, 1);
            x.beam(THICK, t[0]);
            due("13: two riders at OUT 3, THICK " + t[0], x.seconds(1), t[1]);
        }
        BeamSeats x = one(RIDER, 1, 1);
        x.thing(RIDER, 1);
        x.set(1, OUT, 2);
        x.beam(THICK, 10);
        due("13: at two OUTs", x.seconds(1), 3);
    }

    /** "THINGS by numbers": who goes off first makes room, who goes off behind does not. */
    private static void p13RoomByNumbers() {
        for (int leaves = 0; leaves < 2; leaves++) {
            BeamSeats x = one(RIDER, 5, 1);
            x.thing(RIDER, 5);
            x.beam(BEAM, 4);
            x.beam(THICK, 10);
            x.set(leaves, GOAL, 5);
            x.lay(leaves);
            due("13: " + leaves + " leaves", x.seconds(1), leaves == 0 ? 2 : 0);
        }
    }

    /** "None below 0." */
    private static void p13WetNotBelow0() {
        int[][] wets = {{3, 0}, {4, 0}, {5, 1}, {99, 95}, {1, 0}};
        for (int[] w : wets) {
            BeamSeats x = one(WASH, 1, 1);
            x.set(0, WET, w[0]);
            x.seconds(1);
            due("13: WET " + w[0] + " less 4", x.of(0, WET), w[1]);
        }
        BeamSeats x = one(THING, 1, 1);
        x.set(0, WET, 0);
        x.lay(0);
        x.seconds(5);
        due("13: a dry thing stays dry", x.of(0, WET), 0);
        x = one(GUEST, 1, 1);
        x.seconds(30);
        due("13: a guest dries by 0", x.of(0, WET), 50);
    }

    /** On and off within a second: TIMES is 1 more, it is not ON, and dries nothing. */
    private static void p13OnAndOffInOneSecond() {
        BeamSeats x = one(RIDER, 5, 10);
        x.set(0, GOAL, 6);
        due("13: on and off", x.seconds(1), 0);
        due("13: TIMES", x.of(0, TIMES), 1);
        due("13: AT its goal", x.of(0, AT), 6);
        due("13: WET", x.of(0, WET), 50);
        x = one(RIDER, 5, 10);
        x.set(0, GOAL, 10);
        due("13: off at the last bearing", x.seconds(1), 0);
        due("13: AT its goal", x.of(0, AT), 10);
        x = one(RIDER, 5, 10);
        x.set(0, GOAL, 11);
        due("13: one bearing short", x.seconds(1), 1);
        due("13: AT the beam's", x.of(0, AT), 10);
        due("13: WET", x.of(0, WET), 49);
    }

    /** "TIMES is 1 more", "held to 9999" */
    private static void p13TimesAreHeld() {
        int[][] times = {{0, 1}, {9998, 9999}, {9999, 9999}};
        for (int[] t : times) {
            BeamSeats x = one(WASH, 1, 1);
            x.set(0, TIMES, t[0]);
            due("13: it comes on", x.seconds(1), 1);
            due("13: TIMES behind " + t[0], x.of(0, TIMES), t[1]);
        }
    }

    /** "all ON it: .. they are AT the bearing of the beam": also those that were ON when the beam was put elsewhere. */
    private static void p13AllThatRideAreAtTheBeam() {
        BeamSeats x = one(THING, 5, 1);
        x.lay(0);
        x.beam(BEAM, 58);
        due("13: at what it was at", x.of(0, AT), 0);
        due("13: rides from 58", x.seconds(1), 1);
        due("13: at 59", x.of(0, AT), 59);
        due("13: rides over 0", x.seconds(1), 1);
        due("13: at 0", x.of(0, AT), 0);
    }

    /** No thing at all: only the beam and SECOND go. */
    private static void p13Empty() {
        BeamSeats x = new BeamSeats();
        due("13: nothing there", x.seconds(200), 0);
        due("13: SECOND", x.now(0), 200);
        due("13: BEAM", x.now(1), 40);
        due("13: THINGS", x.count(0), 0);
    }
}
