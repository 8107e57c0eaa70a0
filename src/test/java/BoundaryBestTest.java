import java.util.function.Consumer;

/** The boundaries that promises 20 to 25 name: what is best. */
public final class BoundaryBestTest extends Boundary {
    private static final int[] BEYOND_1_TO_120 = {0, -1, 121, MIN, MAX};

    public static void main(String[] args) {
        p20Thing();
        p20NIs1To120();
        p20SpeedIs1To10();
        p20OfSeveralTheLeast();
        p20At120();
        p21Thing();
        p21NIs1To120();
        p21OutIs0To9();
        p21OfSeveralTheLeast();
        p22Thing();
        p22NIs1To120();
        p22KindIs0To5();
        p22OfSeveralTheLeast();
        p22At120();
        p23NIs0To120();
        p23VIs0To8();
        p23ThickIs1To40();
        p23None();
        p23At120();
        p24NIs1To120();
        p24NoneIsOn();
        p24FirstAndLast();
        p24OfSeveralTheLeast();
        p24FewestMayBeAll();
        p24At120();
        p25Thing();
        p25GoalIs0To59();
        p25NotAtOnce();
        p25OfSeveralTheLeast();
        p25At120();
        p25None();
        end();
    }

    private static void p20Thing() {
        noSuchThing("20: speed(.., 1)", (x, i) -> x.speed(i, 1));
        noSuchThing("20: speed(.., 120)", (x, i) -> x.speed(i, 120));
    }

    /** "n SECONDS (1 to 120) AHEAD" */
    private static void p20NIs1To120() {
        // 0 is lost behind 51 bearings: it dries longest with SPEED 1, and with all is dry by then or as dry
        looks("20: speed(0, 1)", Boundary::busy, x -> x.speed(0, 1), 1);
        looks("20: speed(0, 120)", Boundary::busy, x -> x.speed(0, 120), 1);
        looks("20: speed(7, 1)", Boundary::busy, x -> x.speed(7, 1), 1);
        looks("20: speed(7, 120)", Boundary::busy, x -> x.speed(7, 120), 1);
        for (int n : BEYOND_1_TO_120) {
            refused("20: speed(0, " + n + ")", Boundary::busy, x -> x.speed(0, n), BEYOND);
            refused("20: speed(7, " + n + ")", Boundary::busy, x -> x.speed(7, n), BEYOND);
        }
    }

    private static void washBeforeTheSea(BeamSeats x) {
        x.thing(WASH, 57);
        x.beam(BEAM, 56);
        x.beam(SPEED, 9);
    }

    /** "The SPEED (1 to 10)": only the least, only the most, just reached in a second. */
    private static void p20SpeedIs1To10() {
        // above 1 it comes on at 57 and is lost at 58 in the same second
        looks("20: only 1", BoundaryBestTest::washBeforeTheSea, x -> x.speed(0, 1), 1);
        BeamSeats y = after(BoundaryBestTest::washBeforeTheSea);
        y.beam(SPEED, 2);
        due("20: with 2 it dries nothing", y.on(0, 1, 2), 50);
        for (int ahead = 1; ahead <= 11; ahead++) {
            int bearing = ahead;
            int want = ahead <= 10 ? ahead : 1;
            looks("20: a wash " + ahead + " ahead", x -> x.thing(WASH, bearing), x -> x.speed(0, 1), want);
        }
    }

    private static void p20OfSeveralTheLeast() {
        looks("20: all the same", x -> x.thing(THING, 5), x -> x.speed(0, 120), 1);
        // from 4 on it comes on in the first second, and dries the same with all
        looks("20: 4 to 10", x -> x.thing(RIDER, 4), x -> x.speed(0, 1), 4);
        // as a sheet it comes on with 4 and 5 and dries by 2 more
        looks("20: 4 and 5", x -> x.thing(SHEET, 4), x -> x.speed(0, 1), 4);
        looks("20: only 5", x -> x.thing(SHEET, 5), x -> x.speed(0, 1), 5);
        looks("20: WET 98 with 10 alone, 99 with all others", x -> wetRider(x), x -> x.speed(0, 1), 10);
    }

    private static void wetRider(BeamSeats x) {
        x.thing(RIDER, 10);
        x.set(0, WET, 99);
    }

    private static void sheetFrom37(BeamSeats x) {
        x.thing(SHEET, 33);
        x.beam(THICK, 11);
        x.beam(BEAM, 37);
    }

    private static int speedByTrying(Consumer<BeamSeats> before, int n) {
        int best = 0;
        int least = MAX;
        for (int speed = 1; speed <= 10; speed++) {
            BeamSeats x = after(before);
            x.beam(SPEED, speed);
            int wet = x.on(0, n, 2);
            if (wet < least) {
                least = wet;
                best = speed;
            }
        }
        return best;
    }

    /** One where the 120th second makes another SPEED the best. */
    private static void p20At120() {
        due("20: by trying 119", speedByTrying(BoundaryBestTest::sheetFrom37, 119), 1);
        due("20: by trying 120", speedByTrying(BoundaryBestTest::sheetFrom37, 120), 2);
        looks("20: speed(0, 119)", BoundaryBestTest::sheetFrom37, x -> x.speed(0, 119), 1);
        looks("20: speed(0, 120)", BoundaryBestTest::sheetFrom37, x -> x.speed(0, 120), 2);
    }

    private static void p21Thing() {
        noSuchThing("21: far(.., 1)", (x, i) -> x.far(i, 1));
        noSuchThing("21: far(.., 120)", (x, i) -> x.far(i, 120));
    }

    /** "n SECONDS (1 to 120) AHEAD" */
    private static void p21NIs1To120() {
        looks("21: far(0, 1)", Boundary::busy, x -> x.far(0, 1), 0);
        looks("21: far(0, 120)", Boundary::busy, x -> x.far(0, 120), 0);
        looks("21: far(7, 120)", Boundary::busy, x -> x.far(7, 120), 0);
        for (int n : BEYOND_1_TO_120) {
            refused("21: far(0, " + n + ")", Boundary::busy, x -> x.far(0, n), BEYOND);
            refused("21: far(7, " + n + ")", Boundary::busy, x -> x.far(7, n), BEYOND);
        }
    }

    /**
     * The thief gets on with the rider and, if it lies at 9, the wash there finds no room behind it; so the thief is
     * alone when the rider is off at 5, goes off there, and gets on again a round later with the wash, which is on
     * then and has dried to weigh 3. At another OUT the wash gets on in the first round, and the thief rides on with
     * it till it is dry; a round later nothing is on. From bearing 5 the thief gets on again in second 120.
     */
    private static void thiefAndWash(BeamSeats x) {
        x.thing(RIDER, 1);
        x.set(0, GOAL, 5);
        x.set(0, OUT, 0);
        x.thing(THIEF, 2);
        x.set(1, GOAL, 50);
        x.thing(WASH, 3);
        x.set(2, WET, 75);
        x.set(2, OUT, 9);
        x.beam(THICK, 23);
        x.beam(SPEED, 1);
        x.beam(BEAM, 5);
    }

    /** "The OUT (0 to 9)": only the most, and only with the 120th second; only the least. */
    private static void p21OutIs0To9() {
        looks("21: only 9", BoundaryBestTest::thiefAndWash, x -> x.far(1, 120), 9);
        looks("21: a second before, all the same", BoundaryBestTest::thiefAndWash, x -> x.far(1, 119), 0);
        for (int out = 0; out < 10; out++) {
            BeamSeats x = after(BoundaryBestTest::thiefAndWash);
            x.set(1, OUT, out);
            due("21: TIMES with OUT " + out, x.on(1, 120, 4), out == 9 ? 2 : 1);
        }
        // a rider weighs 4: with THICK 4 it is borne at 0 alone, with 3 nowhere
        looks("21: only 0", x -> riderOnThick(x, 4), x -> x.far(0, 1), 0);
        due("21: TIMES at 1", timesOnThick(4, 1), 0);
        due("21: TIMES at 0", timesOnThick(4, 0), 1);
        looks("21: none", x -> riderOnThick(x, 3), x -> x.far(0, 1), 0);
        due("21: TIMES nowhere", timesOnThick(3, 0), 0);
    }

    private static void riderOnThick(BeamSeats x, int thick) {
        x.thing(RIDER, 1);
        x.beam(THICK, thick);
    }

    private static int timesOnThick(int thick, int out) {
        BeamSeats x = new BeamSeats();
        riderOnThick(x, thick);
        x.set(0, OUT, out);
        return x.on(0, 1, 4);
    }

    private static void blockedAt0(BeamSeats x) {
        x.thing(RIDER, 1);
        x.thing(GUEST, 50);
        x.set(1, OUT, 0);
        x.beam(THICK, 8);
        x.lay(1);
    }

    private static void p21OfSeveralTheLeast() {
        looks("21: all the same", x -> x.thing(THING, 5), x -> x.far(0, 120), 0);
        // at 0 lie 5 of 8; at 1 and 2 it is borne
        looks("21: 1 and 2", BoundaryBestTest::blockedAt0, x -> x.far(0, 1), 1);
    }

    private static void p22Thing() {
        noSuchThing("22: kind(.., 1)", (x, i) -> x.kind(i, 1));
        noSuchThing("22: kind(.., 120)", (x, i) -> x.kind(i, 120));
    }

    /** "n SECONDS (1 to 120) AHEAD" */
    private static void p22NIs1To120() {
        looks("22: kind(0, 1)", Boundary::busy, x -> x.kind(0, 1), SHEET);
        looks("22: kind(0, 120)", Boundary::busy, x -> x.kind(0, 120), THING);
        looks("22: kind(7, 1)", Boundary::busy, x -> x.kind(7, 1), THING);
        looks("22: kind(7, 120)", Boundary::busy, x -> x.kind(7, 120), THING);
        for (int n : BEYOND_1_TO_120) {
            refused("22: kind(0, " + n + ")", Boundary::busy, x -> x.kind(0, n), BEYOND);
            refused("22: kind(7, " + n + ")", Boundary::busy, x -> x.kind(7, n), BEYOND);
        }
    }

    private static void onlyThiefIsBorne(BeamSeats x) {
        x.thing(GUEST, 1);
        x.set(0, WET, 99);
        x.thing(THING, 50);
        x.set(1, OUT, 0);
        x.lay(1);
        x.beam(THICK, 8);
    }

    /** "The KIND": only the last, and the first where none is better. */
    private static void p22KindIs0To5() {
        looks("22: only a thief is light enough", BoundaryBestTest::onlyThiefIsBorne, x -> x.kind(0, 1), THIEF);
        looks("22: nothing comes by", x -> x.thing(GUEST, 3), x -> x.kind(0, 1), THING);
    }

    private static void ridesOnAlone(BeamSeats x, int kind, int speed) {
        x.thing(kind, 9);
        x.beam(SPEED, speed);
        x.lay(0);
    }

    private static void p22OfSeveralTheLeast() {
        looks("22: only a sheet", x -> ridesOnAlone(x, GUEST, 2), x -> x.kind(0, 1), SHEET);
        // with SPEED 1 a sheet dries no more than a wash
        looks("22: wash and sheet", x -> ridesOnAlone(x, GUEST, 1), x -> x.kind(0, 1), WASH);
        looks("22: all dry", x -> dryGuest(x), x -> x.kind(0, 120), THING);
    }

    private static void dryGuest(BeamSeats x) {
        x.thing(GUEST, 1);
        x.set(0, WET, 0);
    }

    private static void washFrom43(BeamSeats x) {
        x.thing(WASH, 22);
        x.set(0, GOAL, 12);
        x.beam(SPEED, 5);
        x.beam(BEAM, 43);
    }

    private static int kindByTrying(Consumer<BeamSeats> before, int n) {
        int best = -1;
        int least = MAX;
        for (int kind = 0; kind < 6; kind++) {
            BeamSeats x = after(before);
            x.turn(0, kind);
            int wet = x.on(0, n, 2);
            if (wet < least) {
                least = wet;
                best = kind;
            }
        }
        return best;
    }

    /** One where the 120th second makes another KIND the best. */
    private static void p22At120() {
        due("22: by trying 119", kindByTrying(BoundaryBestTest::washFrom43, 119), WASH);
        due("22: by trying 120", kindByTrying(BoundaryBestTest::washFrom43, 120), SHEET);
        looks("22: kind(0, 119)", BoundaryBestTest::washFrom43, x -> x.kind(0, 119), WASH);
        looks("22: kind(0, 120)", BoundaryBestTest::washFrom43, x -> x.kind(0, 120), SHEET);
    }

    private static void refusedThick(int n, int v, int finding) {
        refused("23: thick(" + n + ", " + v + ")", Boundary::busy, x -> x.thick(n, v), finding);
    }

    /** "n SECONDS (0 to 120) AHEAD" */
    private static void p23NIs0To120() {
        looks("23: thick(0, 4)", Boundary::busy, x -> x.thick(0, 4), 1);
        looks("23: thick(0, 0)", Boundary::busy, x -> x.thick(0, 0), 1);
        looks("23: thick(120, 0)", Boundary::busy, x -> x.thick(120, 0), 1);
        int[] beyond = {-1, 121, MIN, MAX};
        for (int n : beyond) {
            refusedThick(n, 0, BEYOND);
            refusedThick(n, 8, BEYOND);
        }
    }

    private static void ridersAtTheTower(BeamSeats x, int riders) {
        for (int i = 0; i < riders; i++) {
            x.thing(RIDER, 2);
            x.set(i, OUT, 0);
        }
    }

    /** "as many as v (0 to 8), or more" */
    private static void p23VIs0To8() {
        for (int v = 0; v <= 8; v++) {
            int many = v;
            looks("23: " + v + " of 8", x -> ridersAtTheTower(x, 8), x -> x.thick(1, many), Math.max(1, 4 * v));
        }
        int[] beyond = {-1, 9, MIN, MAX};
        for (int v : beyond) {
            refusedThick(0, v, BEYOND);
            refusedThick(120, v, BEYOND);
        }
        looks("23: none of none", Boundary::nothing, x -> x.thick(120, 0), 1);
    }

    /** Five riders, 20 at OUT 9, and a wash there: by its WET it weighs 2 or 3, and 22 is what a beam of 40 bears. */
    private static void sixAtTheEnd(BeamSeats x, int wet) {
        for (int i = 0; i < 6; i++) {
            x.thing(i < 5 ? RIDER : WASH, 1);
            x.set(i, OUT, 9);
        }
        x.set(5, WET, wet);
    }

    /** "The least THICK (1 to 40)": 1, 40, and one that would have to be 41. */
    private static void p23ThickIs1To40() {
        looks("23: just 40", x -> sixAtTheEnd(x, 49), x -> x.thick(1, 6), 40);
        refused("23: it would have to be 41", x -> sixAtTheEnd(x, 50), x -> x.thick(1, 6), NONE);
        // four riders and the wash weigh 19; with 18 the wash has no room behind them, with 20 the fifth rider has
        looks("23: five need 37", x -> sixAtTheEnd(x, 50), x -> x.thick(1, 5), 37);
        looks("23: four need 34", x -> sixAtTheEnd(x, 99), x -> x.thick(1, 4), 34);
        looks("23: 1 bears a wash of WET 24", x -> lightWash(x), x -> x.thick(1, 1), 1);
        looks("23: 2 bears a wash of WET 25", x -> wetterWash(x), x -> x.thick(1, 1), 2);
    }

    private static void lightWash(BeamSeats x) {
        x.thing(WASH, 1);
        x.set(0, OUT, 0);
        x.set(0, WET, 24);
    }

    private static void wetterWash(BeamSeats x) {
        lightWash(x);
        x.set(0, WET, 25);
    }

    /** "BEYOND. NONE.": more than there are, more than are ON now. */
    private static void p23None() {
        refusedThick(0, 5, NONE);
        refusedThick(0, 8, NONE);
        refusedThick(120, 8, NONE);
        refused("23: one of none", Boundary::nothing, x -> x.thick(0, 1), NONE);
        refused("23: one of none ahead", Boundary::nothing, x -> x.thick(120, 8), NONE);
        refused("23: eight of seven", x -> ridersAtTheTower(x, 7), x -> x.thick(1, 8), NONE);
    }

    private static void washAndSheet(BeamSeats x) {
        x.thing(WASH, 31);
        x.set(0, WET, 95);
        x.thing(SHEET, 33);
        x.set(1, WET, 63);
        x.beam(SPEED, 1);
        x.beam(BEAM, 35);
    }

    private static int thickByTrying(int n) {
        int least = NONE;
        for (int thick = 40; thick >= 1; thick--) {
            BeamSeats x = after(BoundaryBestTest::washAndSheet);
            x.beam(THICK, thick);
            least = x.then(n, 0) >= 1 ? thick : least;
        }
        return least;
    }

    /** One where the 120th second needs another THICK. */
    private static void p23At120() {
        due("23: by trying 119", thickByTrying(119), 10);
        due("23: by trying 120", thickByTrying(120), 14);
        looks("23: thick(119, 1)", BoundaryBestTest::washAndSheet, x -> x.thick(119, 1), 10);
        looks("23: thick(120, 1)", BoundaryBestTest::washAndSheet, x -> x.thick(120, 1), 14);
    }

    /** "n SECONDS (1 to 120) AHEAD" */
    private static void p24NIs1To120() {
        looks("24: save(1)", Boundary::busy, x -> x.save(1), 0);
        looks("24: save(120)", Boundary::busy, x -> x.save(120), 0);
        for (int n : BEYOND_1_TO_120) {
            refused("24: save(" + n + ")", Boundary::busy, x -> x.save(n), BEYOND);
            refused("24: none is on, and save(" + n + ")", Boundary::nothing, x -> x.save(n), BEYOND);
        }
    }

    private static void allOff(BeamSeats x) {
        busy(x);
        for (int i = 0; i < 8; i++) {
            x.take(i);
        }
    }

    /** "NONE: none is ON.": no thing at all, or all off. */
    private static void p24NoneIsOn() {
        refused("24: no thing, 1", Boundary::nothing, x -> x.save(1), NONE);
        refused("24: no thing, 120", Boundary::nothing, x -> x.save(120), NONE);
        refused("24: all off, 1", BoundaryBestTest::allOff, x -> x.save(1), NONE);
        refused("24: all off, 120", BoundaryBestTest::allOff, x -> x.save(120), NONE);
    }

    private static void eight(BeamSeats x, int on) {
        for (int i = 0; i < 8; i++) {
            x.thing(THING, 5);
        }
        x.lay(on);
    }

    /** "(one that is ON)": the only one, the first or the last. */
    private static void p24FirstAndLast() {
        for (int on = 0; on < 8; on++) {
            int one = on;
            looks("24: only " + on + " is on", x -> eight(x, one), x -> x.save(1), on);
            looks("24: only " + on + " is on, to be lost", x -> eight(x, one), x -> x.save(120), on);
        }
    }

    private static void riderAndThings(BeamSeats x) {
        x.thing(THING, 5);
        x.thing(RIDER, 5);
        x.thing(THING, 5);
        x.thing(THING, 5);
        for (int i = 1; i < 4; i++) {
            x.lay(i);
        }
    }

    /** A second before the sea all are as good; with the sea the rider is no help, and 2 is as good as 3. */
    private static void p24OfSeveralTheLeast() {
        looks("24: save(28)", BoundaryBestTest::riderAndThings, x -> x.save(28), 1);
        looks("24: save(29)", BoundaryBestTest::riderAndThings, x -> x.save(29), 2);
    }

    /** All eight on; a rider that is taken off gets on again a round later, and the sea comes before its goal. */
    private static void allOn(BeamSeats x, int kind) {
        for (int i = 0; i < 8; i++) {
            x.thing(kind, 5);
            x.set(i, OUT, i / 4);
            x.set(i, GOAL, 59);
            x.lay(i);
        }
    }

    /** "lets fewest be LOST": be it seven of eight, or all. */
    private static void p24FewestMayBeAll() {
        looks("24: seven things are lost", x -> allOn(x, THING), x -> x.save(120), 0);
        looks("24: all riders are lost", x -> allOn(x, RIDER), x -> x.save(120), 0);
        BeamSeats x = after(y -> allOn(y, RIDER));
        x.take(0);
        due("24: seven in 58 seconds", x.then(58, 1), 7);
        due("24: all in 59", x.then(59, 1), 8);
    }

    private static void washAndGuest(BeamSeats x) {
        x.beam(BEAM, 59);
        x.thing(WASH, 42);
        x.set(0, OUT, 2);
        x.set(0, WET, 78);
        x.lay(0);
        x.thing(GUEST, 4);
        x.set(1, OUT, 1);
        x.lay(1);
    }

    /** The guest, once off, gets on a round later and is lost in second 120; till then it is the one to save. */
    private static void p24At120() {
        looks("24: save(119)", BoundaryBestTest::washAndGuest, x -> x.save(119), 1);
        looks("24: save(120)", BoundaryBestTest::washAndGuest, x -> x.save(120), 0);
        BeamSeats x = after(BoundaryBestTest::washAndGuest);
        x.take(1);
        due("24: taken off, it is lost in", x.lost(1), 120);
    }

    private static void p25Thing() {
        noSuchThing("25: goal(..)", (x, i) -> x.goal(i));
    }

    private static void riderOn(BeamSeats x, int bearing, int speed) {
        x.thing(RIDER, 40);
        x.beam(BEAM, bearing);
        x.beam(SPEED, speed);
        x.lay(0);
    }

    /** "The GOAL (0 to 59)": the next bearing, over 0 too. */
    private static void p25GoalIs0To59() {
        int[] bearings = {0, 1, 57, 58, 59};
        for (int bearing : bearings) {
            looks("25: on at " + bearing, x -> riderOn(x, bearing, 1), x -> x.goal(0), (bearing + 1) % 60);
        }
    }

    private static void riderAt(BeamSeats x, int bearing, int goal) {
        x.thing(RIDER, bearing);
        x.set(0, GOAL, goal);
    }

    /** "but not at once (1 to 120 SECONDS)": not where it is already, though it is there in a second too. */
    private static void p25NotAtOnce() {
        looks("25: AT 1, in one second at 2", x -> riderAt(x, 1, 30), x -> x.goal(0), 2);
        looks("25: also if its goal is where it is", x -> riderAt(x, 1, 1), x -> x.goal(0), 2);
        refused("25: a thing stays where it is", x -> x.thing(THING, 30), x -> x.goal(0), NONE);
    }

    private static void guestOn(BeamSeats x, int bearing) {
        x.thing(GUEST, 5);
        x.beam(BEAM, bearing);
        x.beam(SPEED, 10);
        x.lay(0);
    }

    /** With SPEED 10 from 55 a rider on the beam may leave at 56, 57, 58 (59 to 5 lie behind the sea). */
    private static void p25OfSeveralTheLeast() {
        looks("25: 31 to 40", x -> riderOn(x, 30, 10), x -> x.goal(0), 31);
        looks("25: 56 to 58", x -> riderOn(x, 55, 10), x -> x.goal(0), 56);
        looks("25: 59, and 0 to 8", x -> riderOn(x, 58, 10), x -> x.goal(0), 0);
        looks("25: a guest leaves at 38", x -> guestOn(x, 30), x -> x.goal(0), 38);
        looks("25: or is lost at 58", x -> guestOn(x, 50), x -> x.goal(0), 58);
    }

    /**
     * The thief AT 35 gets on with the sheet a round behind the sheet's first, and is off at 36 a second later, in 62
     * seconds from the sheet's coming on at 34: in 120 from 36, in 121 from 35.
     */
    private static void drift(BeamSeats x, int start) {
        x.thing(SHEET, 34);
        x.thing(THIEF, 35);
        x.beam(SPEED, 1);
        x.beam(BEAM, start);
    }

    private static void p25At120() {
        looks("25: in 120", x -> drift(x, 36), x -> x.goal(1), 36);
        looks("25: in 119", x -> drift(x, 37), x -> x.goal(1), 36);
        refused("25: in 121", x -> drift(x, 35), x -> x.goal(1), NONE);
        BeamSeats x = new BeamSeats();
        drift(x, 35);
        x.set(1, GOAL, 36);
        due("25: arrives() looks further", x.arrives(1), 121);
    }

    private static void p25None() {
        refused("25: one at sea", Boundary::busy, x -> x.goal(6), NONE);
        refused("25: a dry wash that isn't on", Boundary::busy, x -> x.goal(7), NONE);
        looks("25: a thing that is on is lost at 58", Boundary::busy, x -> x.goal(0), 58);
    }
}
