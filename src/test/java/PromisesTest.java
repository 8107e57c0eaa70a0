/** One method a promise: ordinary inputs, the edges that the document names, wrong inputs. */
public final class PromisesTest {
    private static final int BEYOND = -1000000001;
    private static final int FULL = -1000000002;
    private static final int KIND = -1000000003;
    private static final int NONE = -1000000004;
    private static final int STATE = -1000000005;
    private static final int MISSING = -1000000006;
    private static final int SIZE = -1000000007;

    private static final int THING = 0;
    private static final int WASH = 1;
    private static final int RIDER = 2;
    private static final int GUEST = 3;
    private static final int SHEET = 4;
    private static final int THIEF = 5;

    private static final int AT = 1;
    private static final int OUT = 2;
    private static final int ON = 3;
    private static final int WET = 4;
    private static final int GOAL = 5;
    private static final int LOST = 6;
    private static final int TIMES = 7;
    private static final int WEIGHS = 8;
    private static final int DRIES = 9;

    private static int wrong = 0;
    private static int asked = 0;

    private static void due(String what, long got, long want) {
        asked++;
        if (got != want) {
            wrong++;
            System.out.println(what + " answered " + got + ", due is " + want);
        }
    }

    public static void main(String[] args) {
        p1NewObject();
        p2Beam();
        p3Now();
        p4Load();
        p5Thing();
        p6Of();
        p7Set();
        p8Carry();
        p9Turn();
        p10As();
        p11Lay();
        p12Take();
        p13SecondsWashAndRider();
        p13SecondsGuest();
        p13SecondsSheet();
        p13SecondsThief();
        p13SecondsSea();
        p13SecondsLoad();
        p13SecondsLimits();
        p14On();
        p15Then();
        p16Gets();
        p17Dry();
        p18Lost();
        p19Arrives();
        p20Speed();
        p21Far();
        p22Kind();
        p23Thick();
        p24Save();
        p25Goal();
        p26Feed();
        p27Wipe();
        p28IslandItems();
        p28IslandFaults();
        p28IslandNinth();
        p29Sheet();
        p30Write();
        p31Copy();
        p32Lays();
        p33Book();
        p34Read();
        p35Image();
        p36Undo();
        p37Tear();
        p38Count();
        p39Status();
        System.out.println(asked + " answers asked, " + wrong + " not as due");
        if (wrong != 0) {
            System.exit(1);
        }
    }

    private static void p1NewObject() {
        BeamSeats x = new BeamSeats();
        int[] due = {0, 0, 2, 20, 0, 0, 0};
        for (int what = 0; what < due.length; what++) {
            due("1: now(" + what + ")", x.now(what), due[what]);
        }
        for (int what = 0; what < 4; what++) {
            due("1: count(" + what + ")", x.count(what), 0);
        }
        for (int which = -1; which < 7; which++) {
            due("1: status(" + which + ")", x.status(which), 0);
        }
        for (int s = 0; s < 4; s++) {
            due("1: sheet " + s + " is missing", x.write(s, 0, 1), MISSING);
        }
        due("1: nothing is kept", x.undo(), NONE);
        due("1: nothing to tear", x.tear(), 0);
        due("1: the tape is empty", x.wipe(), 0);
        BeamSeats y = new BeamSeats();
        x.thing(0, 1);
        due("1: objects have nothing in common", y.count(0), 0);
    }

    private static void p2Beam() {
        BeamSeats x = new BeamSeats();
        due("2: bearing", x.beam(0, 59), 0);
        due("2: bearing again", x.beam(0, 0), 59);
        due("2: speed", x.beam(1, 10), 2);
        due("2: speed again", x.beam(1, 1), 10);
        due("2: thick", x.beam(2, 40), 20);
        due("2: thick again", x.beam(2, 1), 40);
        int[][] beyond = {{0, -1}, {0, 60}, {1, 0}, {1, 11}, {2, 0}, {2, 41}, {-1, 1}, {3, 1},
            {0, Integer.MIN_VALUE}, {1, Integer.MAX_VALUE}};
        for (int[] b : beyond) {
            due("2: beam(" + b[0] + ", " + b[1] + ")", x.beam(b[0], b[1]), BEYOND);
        }
        due("2: bearing is as it was", x.now(1), 0);
        due("2: speed is as it was", x.now(2), 1);
        due("2: thick is as it was", x.now(3), 1);
        x = new BeamSeats();
        x.thing(RIDER, 9);
        x.lay(0);
        x.beam(0, 40);
        x.beam(2, 1);
        due("2: one on it stays on, too heavy or not", x.of(0, ON), 1);
        due("2: and is at what it was at", x.of(0, AT), 0);
    }

    private static void p3Now() {
        BeamSeats x = new BeamSeats();
        x.thing(THING, 5);
        x.thing(GUEST, 5);
        x.thing(RIDER, 5);
        x.lay(0);
        x.lay(2);
        due("3: on", x.now(4), 5);
        due("3: weighs", x.now(6), 7);
        x.set(2, GOAL, 58);
        x.beam(0, 57);
        x.seconds(1);
        due("3: second", x.now(0), 1);
        due("3: bearing", x.now(1), 59);
        due("3: on after the sea", x.now(4), 0);
        due("3: lost", x.now(5), 1);
        due("3: weighs nothing", x.now(6), 0);
        due("3: now(-1)", x.now(-1), BEYOND);
        due("3: now(7)", x.now(7), BEYOND);
    }

    private static void p4Load() {
        BeamSeats x = new BeamSeats();
        due("4: bears at the tower", x.load(0, 0), 20);
        due("4: bears at 9", x.load(9, 0), 2);
        x.beam(2, 9);
        due("4: bears at 4", x.load(4, 0), 1);
        due("4: bears no less than 0", x.load(5, 0), 0);
        x.thing(RIDER, 1);
        x.thing(THIEF, 1);
        x.thing(RIDER, 1);
        x.set(0, OUT, 2);
        x.set(1, OUT, 1);
        x.lay(0);
        x.lay(1);
        due("4: lies at 2", x.load(2, 1), 4);
        due("4: lies at 1", x.load(1, 1), 2);
        due("4: lies at 3, where one stands by", x.load(3, 1), 0);
        x.set(1, OUT, 2);
        due("4: both at 2", x.load(2, 1), 6);
        due("4: load(-1, 0)", x.load(-1, 0), BEYOND);
        due("4: load(10, 1)", x.load(10, 1), BEYOND);
        due("4: load(0, -1)", x.load(0, -1), BEYOND);
        due("4: load(0, 2)", x.load(0, 2), BEYOND);
    }

    private static void p5Thing() {
        BeamSeats x = new BeamSeats();
        due("5: thing(-1, 0)", x.thing(-1, 0), BEYOND);
        due("5: thing(6, 0)", x.thing(6, 0), BEYOND);
        due("5: thing(0, -1)", x.thing(0, -1), BEYOND);
        due("5: thing(0, 60)", x.thing(0, 60), BEYOND);
        for (int i = 0; i < 8; i++) {
            due("5: number " + i, x.thing(i % 6, i == 0 ? 59 : i), i);
        }
        due("5: full", x.thing(0, 0), FULL);
        due("5: beyond comes before full", x.thing(6, 0), BEYOND);
        int[] due = {THIEF, 5, 3, 0, 50, 30, 0, 0, 2, 1};
        for (int what = 0; what < due.length; what++) {
            due("5: new thing's " + what, x.of(5, what), due[what]);
        }
        due("5: eight", x.count(0), 8);
    }

    private static void p6Of() {
        BeamSeats x = new BeamSeats();
        for (int kind = 0; kind < 6; kind++) {
            x.thing(kind, kind);
        }
        int[] weighs = {3, 3, 4, 5, 4, 2};
        int[] dries = {1, 4, 1, 0, 5, 1};
        for (int kind = 0; kind < 6; kind++) {
            due("6: kind", x.of(kind, 0), kind);
            due("6: weighs as " + kind, x.of(kind, WEIGHS), weighs[kind]);
            due("6: dries as " + kind, x.of(kind, DRIES), dries[kind]);
        }
        int[][] weighsByWet = {{0, 1}, {24, 1}, {25, 2}, {49, 2}, {74, 3}, {75, 4}, {99, 4}};
        for (int[] w : weighsByWet) {
            x.set(WASH, WET, w[0]);
            x.set(SHEET, WET, w[0]);
            due("6: wash of wet " + w[0], x.of(WASH, WEIGHS), w[1]);
            due("6: sheet of wet " + w[0], x.of(SHEET, WEIGHS), w[1] + 1);
        }
        int[][] driesByOut = {{0, 3}, {2, 3}, {5, 4}, {6, 5}, {8, 5}, {9, 6}};
        x.beam(1, 7);
        for (int[] d : driesByOut) {
            x.set(WASH, OUT, d[0]);
            x.set(SHEET, OUT, d[0]);
            due("6: wash out " + d[0], x.of(WASH, DRIES), d[1]);
            due("6: sheet out " + d[0] + " with speed 7", x.of(SHEET, DRIES), d[1] + 3);
        }
        x.lay(0);
        due("6: on", x.of(0, ON), 1);
        due("6: times", x.of(0, TIMES), 1);
        due("6: of(-1, 0)", x.of(-1, 0), BEYOND);
        due("6: of(6, 0)", x.of(6, 0), BEYOND);
        due("6: of(0, -1)", x.of(0, -1), BEYOND);
        due("6: of(0, 10)", x.of(0, 10), BEYOND);
    }

    private static void p7Set() {
        BeamSeats x = new BeamSeats();
        x.thing(WASH, 1);
        int[] whats = {OUT, WET, GOAL, TIMES};
        int[] first = {3, 50, 30, 0};
        int[] most = {9, 99, 59, 9999};
        for (int k = 0; k < whats.length; k++) {
            due("7: to most", x.set(0, whats[k], most[k]), first[k]);
            due("7: above most", x.set(0, whats[k], most[k] + 1), BEYOND);
            due("7: below 0", x.set(0, whats[k], -1), BEYOND);
            due("7: is most", x.of(0, whats[k]), most[k]);
            due("7: to 0", x.set(0, whats[k], 0), most[k]);
            due("7: is 0", x.of(0, whats[k]), 0);
        }
        int[] others = {-1, 0, 1, 3, 6, 8, 9, 10};
        for (int what : others) {
            due("7: set(0, " + what + ", 0)", x.set(0, what, 0), BEYOND);
        }
        due("7: no such one", x.set(1, OUT, 0), BEYOND);
        due("7: none below 0", x.set(-1, OUT, 0), BEYOND);
    }

    private static void p8Carry() {
        BeamSeats x = new BeamSeats();
        x.thing(THING, 7);
        due("8: where it was", x.carry(0, 59), 7);
        due("8: and again", x.carry(0, 0), 59);
        due("8: carry(0, -1)", x.carry(0, -1), BEYOND);
        due("8: carry(0, 60)", x.carry(0, 60), BEYOND);
        due("8: carry(1, 0)", x.carry(1, 0), BEYOND);
        x.lay(0);
        due("8: it is on", x.carry(0, 3), STATE);
        due("8: beyond comes first", x.carry(0, 60), BEYOND);
        x.seconds(29);
        due("8: lost", x.of(0, LOST), 1);
        due("8: carried from the sea", x.carry(0, 58), 58);
        due("8: not lost any more", x.of(0, LOST), 0);
    }

    private static void p9Turn() {
        BeamSeats x = new BeamSeats();
        x.thing(SHEET, 7);
        x.set(0, TIMES, 5);
        due("9: what it was", x.turn(0, GUEST), SHEET);
        due("9: what it is", x.of(0, 0), GUEST);
        due("9: all else stays", x.of(0, TIMES), 5);
        due("9: weighs as that", x.of(0, WEIGHS), 5);
        due("9: turn(0, 6)", x.turn(0, 6), BEYOND);
        due("9: turn(0, -1)", x.turn(0, -1), BEYOND);
        due("9: turn(1, 0)", x.turn(1, 0), BEYOND);
        due("9: to what it is", x.turn(0, GUEST), GUEST);
        due("9: to a thing", x.turn(0, THING), GUEST);
    }

    private static void p10As() {
        BeamSeats x = new BeamSeats();
        String[] under = {"100000", "110000", "101000", "100100", "110010", "101001"};
        for (int kind = 0; kind < 6; kind++) {
            x.thing(kind, 0);
            x.set(kind, WET, 60 + kind);
            for (int as = 0; as < 6; as++) {
                int want = under[kind].charAt(as) == '1' ? 60 + kind : KIND;
                due("10: " + kind + " as " + as, x.as(kind, as), want);
            }
        }
        due("10: as(6, 0)", x.as(6, 0), BEYOND);
        due("10: as(-1, 0)", x.as(-1, 0), BEYOND);
        due("10: as(0, 6)", x.as(0, 6), BEYOND);
        due("10: as(0, -1)", x.as(0, -1), BEYOND);
    }

    private static void p11Lay() {
        BeamSeats x = new BeamSeats();
        x.thing(GUEST, 7);
        x.thing(GUEST, 7);
        x.thing(RIDER, 7);
        x.thing(THIEF, 7);
        x.beam(0, 20);
        due("11: first", x.lay(0), 5);
        due("11: at the beam's bearing", x.of(0, AT), 20);
        due("11: times", x.of(0, TIMES), 1);
        due("11: on", x.of(0, ON), 1);
        due("11: second there", x.lay(1), 10);
        due("11: just borne", x.lay(2), 14);
        due("11: not borne", x.lay(3), FULL);
        due("11: stays where it was", x.of(3, AT), 7);
        due("11: stays off", x.of(3, ON), 0);
        x.set(3, OUT, 4);
        due("11: elsewhere it is", x.lay(3), 2);
        due("11: it is on", x.lay(3), STATE);
        due("11: no such one", x.lay(4), BEYOND);
        due("11: none below 0", x.lay(-1), BEYOND);
        x = new BeamSeats();
        x.thing(THING, 7);
        x.set(0, TIMES, 9999);
        x.beam(0, 57);
        x.lay(0);
        due("11: times are held", x.of(0, TIMES), 9999);
        x.seconds(1);
        x.set(0, OUT, 9);
        due("11: lost comes before full", x.lay(0), STATE);
        x.carry(0, 1);
        due("11: too heavy so far out", x.lay(0), FULL);
    }

    private static void p12Take() {
        BeamSeats x = new BeamSeats();
        x.thing(THING, 7);
        due("12: it isn't on", x.take(0), STATE);
        due("12: no such one", x.take(1), BEYOND);
        due("12: none below 0", x.take(-1), BEYOND);
        x.lay(0);
        x.beam(0, 33);
        due("12: where the beam is", x.take(0), 33);
        due("12: it is there", x.of(0, AT), 33);
        due("12: it is off", x.of(0, ON), 0);
        due("12: times stay", x.of(0, TIMES), 1);
    }

    private static void p13SecondsWashAndRider() {
        BeamSeats x = new BeamSeats();
        x.thing(WASH, 4);
        x.thing(RIDER, 4);
        x.thing(THING, 4);
        x.set(1, GOAL, 5);
        x.set(1, OUT, 2);
        x.beam(1, 3);
        due("13: nothing comes by", x.seconds(1), 0);
        due("13: the wash comes on", x.seconds(1), 1);
        due("13: the beam is on", x.now(1), 6);
        due("13: the wash rides with it", x.of(0, AT), 6);
        due("13: the wash dries", x.of(0, WET), 46);
        due("13: the rider got off in the same second", x.of(1, AT), 5);
        due("13: not on", x.of(1, ON), 0);
        due("13: it came on once", x.of(1, TIMES), 1);
        due("13: it dried nothing", x.of(1, WET), 50);
        due("13: a thing stays", x.of(2, AT), 4);
        due("13: the wash goes on", x.seconds(11), 1);
        due("13: and is nearly dry", x.of(0, WET), 2);
        due("13: none below 0", x.seconds(1), 1);
        due("13: dry", x.of(0, WET), 0);
        due("13: off at the first bearing of the next", x.seconds(1), 0);
        due("13: there", x.of(0, AT), 43);
        due("13: seconds", x.now(0), 15);
        x.carry(0, 46);
        x.carry(1, 5);
        due("13: dry wash and a rider at its goal stay", x.seconds(40), 0);
        due("13: the wash's times", x.of(0, TIMES), 1);
        due("13: the rider's times", x.of(1, TIMES), 1);
    }

    private static void p13SecondsGuest() {
        BeamSeats x = new BeamSeats();
        for (int i = 0; i < 4; i++) {
            x.thing(GUEST, 2);
            x.set(i, OUT, i);
        }
        due("13: three guests sit", x.seconds(1), 7);
        due("13: the fourth stays", x.of(3, ON), 0);
        due("13: guests don't dry", x.of(0, WET), 50);
        x.carry(3, 38);
        due("13: at 38 three go off before the fourth comes on", x.seconds(18), 8);
        due("13: the first is at 38", x.of(0, AT), 38);
        due("13: the fourth goes off at 39", x.seconds(1), 0);
        due("13: there", x.of(3, AT), 39);
    }

    private static void p13SecondsSheet() {
        BeamSeats x = new BeamSeats();
        x.thing(SHEET, 3);
        x.beam(1, 6);
        due("13: a sheet doesn't come on with speed 6", x.seconds(10), 0);
        x.beam(1, 5);
        due("13: with speed 5 it does", x.seconds(1), 1);
        due("13: it dries", x.of(0, WET), 44);
        x.set(0, WET, 99);
        due("13: it is on to 30", x.seconds(5), 1);
        due("13: off at 35", x.seconds(1), 0);
        due("13: there", x.of(0, AT), 35);
        x.carry(0, 40);
        due("13: behind 35 it comes on, and goes off with the next bearing", x.seconds(1), 1);
        due("13: at 40", x.of(0, AT), 40);
        due("13: off", x.seconds(1), 0);
        due("13: at 41", x.of(0, AT), 41);
        x.carry(0, 10);
        x.set(0, WET, 0);
        due("13: a dry one stays", x.seconds(12), 0);
        x.set(0, WET, 1);
        x.beam(0, 5);
        due("13: a bit wet one comes on", x.seconds(1), 1);
        due("13: dry by then", x.of(0, WET), 0);
        due("13: off", x.seconds(1), 0);
        due("13: at 11", x.of(0, AT), 11);
    }

    private static void p13SecondsThief() {
        BeamSeats x = new BeamSeats();
        x.thing(THIEF, 2);
        x.thing(RIDER, 1);
        x.set(1, GOAL, 6);
        x.beam(1, 1);
        due("13: the rider comes on", x.seconds(1), 2);
        due("13: the thief behind it", x.seconds(1), 3);
        due("13: the rider gets off at 6 behind the thief's turn", x.seconds(4), 1);
        due("13: the thief alone goes off", x.seconds(1), 0);
        due("13: at 7", x.of(0, AT), 7);
        due("13: alone it doesn't come on", x.seconds(60), 0);
        x = new BeamSeats();
        x.thing(RIDER, 1);
        x.thing(THIEF, 1);
        x.thing(THIEF, 3);
        x.set(0, GOAL, 6);
        x.set(1, GOAL, 4);
        x.set(2, GOAL, 3);
        x.beam(1, 1);
        due("13: both come on", x.seconds(3), 3);
        due("13: a thief goes off at its goal", x.seconds(1), 1);
        due("13: a thief at its goal stays", x.of(2, TIMES), 0);
        x.carry(1, 6);
        due("13: the rider goes off before the thief's turn", x.seconds(2), 0);
    }

    private static void p13SecondsSea() {
        BeamSeats x = new BeamSeats();
        x.thing(THING, 7);
        x.thing(RIDER, 7);
        x.thing(WASH, 58);
        x.thing(WASH, 59);
        x.set(1, GOAL, 58);
        x.set(3, OUT, 2);
        x.beam(0, 55);
        x.lay(0);
        x.lay(1);
        due("13: to 57", x.seconds(1), 3);
        due("13: at 58 and 59", x.seconds(1), 12);
        due("13: only the thing is lost", x.now(5), 1);
        due("13: at 58", x.of(0, AT), 58);
        due("13: the rider is at its goal", x.of(1, AT), 58);
        due("13: 59 is followed by 0", x.seconds(1), 12);
        due("13: the beam", x.now(1), 1);
        x.turn(0, RIDER);
        due("13: one at sea never comes on", x.seconds(60), 0);
        due("13: its times", x.of(0, TIMES), 1);
    }

    private static void p13SecondsLoad() {
        BeamSeats x = new BeamSeats();
        for (int i = 0; i < 4; i++) {
            x.thing(RIDER, 2);
        }
        due("13: three riders weigh 12 of 14", x.seconds(1), 7);
        x.carry(3, 5);
        x.set(2, GOAL, 4);
        due("13: when one is off there is room again", x.seconds(2), 11);
        x = new BeamSeats();
        x.thing(WASH, 4);
        x.beam(2, 9);
        x.set(0, WET, 75);
        due("13: too wet", x.seconds(2), 0);
        x.set(0, WET, 74);
        due("13: just dry enough", x.seconds(30), 1);
        due("13: it came on once", x.of(0, TIMES), 1);
        x.take(0);
        x.carry(0, 6);
        x.set(0, WET, 10);
        x.set(0, TIMES, 9999);
        due("13: on", x.seconds(1), 1);
        due("13: times are held", x.of(0, TIMES), 9999);
    }

    private static void p13SecondsLimits() {
        BeamSeats x = new BeamSeats();
        due("13: seconds(0)", x.seconds(0), BEYOND);
        due("13: seconds(201)", x.seconds(201), BEYOND);
        due("13: seconds(MAX)", x.seconds(Integer.MAX_VALUE), BEYOND);
        for (int k = 0; k < 499; k++) {
            x.seconds(200);
        }
        due("13: too many by one", x.seconds(200), STATE);
        due("13: the second is as it was", x.now(0), 99800);
        due("13: just so many", x.seconds(199), 0);
        due("13: the last second", x.now(0), 99999);
        due("13: none more", x.seconds(1), STATE);
        due("13: beyond comes first", x.seconds(201), BEYOND);
        x.thing(WASH, 1);
        x.beam(0, 0);
        due("13: ahead goes on all the same", x.gets(0), 1);
        due("13: the findings are counted", x.status(4), 2);
    }

    private static void p14On() {
        BeamSeats x = new BeamSeats();
        x.thing(WASH, 6);
        x.thing(THING, 6);
        x.lay(1);
        int[] due = {8, 1, 42, 0, 1};
        for (int what = 0; what < 5; what++) {
            due("14: on(0, 4, " + what + ")", x.on(0, 4, what), due[what]);
        }
        due("14: not on yet", x.on(0, 2, 1), 0);
        due("14: lost ahead", x.on(1, 29, 3), 1);
        due("14: not yet", x.on(1, 28, 3), 0);
        due("14: 0 seconds", x.on(0, 0, 0), 6);
        due("14: 400 seconds", x.on(0, 400, 2), 0);
        due("14: nothing changes", x.now(0), 0);
        due("14: nor does a thing", x.of(0, AT), 6);
        due("14: on(0, -1, 0)", x.on(0, -1, 0), BEYOND);
        due("14: on(0, 401, 0)", x.on(0, 401, 0), BEYOND);
        due("14: on(2, 0, 0)", x.on(2, 0, 0), BEYOND);
        due("14: on(-1, 0, 0)", x.on(-1, 0, 0), BEYOND);
        due("14: on(0, 0, -1)", x.on(0, 0, -1), BEYOND);
        due("14: on(0, 0, 5)", x.on(0, 0, 5), BEYOND);
    }

    private static void p15Then() {
        BeamSeats x = new BeamSeats();
        x.thing(THING, 6);
        x.thing(THING, 6);
        x.thing(RIDER, 6);
        x.lay(0);
        x.lay(1);
        due("15: on now", x.then(0, 0), 2);
        due("15: on in 3", x.then(3, 0), 3);
        due("15: on in 15", x.then(15, 0), 2);
        due("15: lost in 28", x.then(28, 1), 0);
        due("15: lost in 29", x.then(29, 1), 2);
        due("15: lost in 400", x.then(400, 1), 2);
        due("15: then(-1, 0)", x.then(-1, 0), BEYOND);
        due("15: then(401, 0)", x.then(401, 0), BEYOND);
        due("15: then(0, -1)", x.then(0, -1), BEYOND);
        due("15: then(0, 2)", x.then(0, 2), BEYOND);
    }

    private static void p16Gets() {
        BeamSeats x = new BeamSeats();
        x.thing(RIDER, 7);
        x.thing(THING, 7);
        x.thing(RIDER, 0);
        due("16: in 4", x.gets(0), 4);
        due("16: never", x.gets(1), NONE);
        due("16: a whole round", x.gets(2), 30);
        x.lay(1);
        due("16: at once", x.gets(1), 0);
        due("16: gets(3)", x.gets(3), BEYOND);
        due("16: gets(-1)", x.gets(-1), BEYOND);
        x.set(0, GOAL, 8);
        due("16: on and off within a second is not on", x.gets(0), NONE);
    }

    private static void p17Dry() {
        BeamSeats x = new BeamSeats();
        x.thing(WASH, 2);
        x.thing(GUEST, 2);
        x.thing(THING, 2);
        x.set(0, OUT, 0);
        due("17: 17 seconds on", x.dry(0), 17);
        due("17: a guest never", x.dry(1), NONE);
        x.set(1, WET, 0);
        due("17: already", x.dry(1), 0);
        x.beam(1, 1);
        x.set(2, WET, 57);
        x.lay(2);
        due("17: just before the sea", x.dry(2), 57);
        x.set(2, WET, 58);
        due("17: the sea comes first", x.dry(2), NONE);
        due("17: dry(3)", x.dry(3), BEYOND);
        due("17: dry(-1)", x.dry(-1), BEYOND);
    }

    private static void p18Lost() {
        BeamSeats x = new BeamSeats();
        x.thing(THING, 2);
        x.thing(RIDER, 2);
        x.set(1, GOAL, 1);
        due("18: stays", x.lost(0), NONE);
        due("18: the goal lies behind the sea", x.lost(1), 29);
        x.set(1, GOAL, 57);
        due("18: the goal lies before", x.lost(1), NONE);
        x.lay(0);
        x.beam(0, 58);
        due("18: a round from 58 to 58", x.lost(0), 30);
        x.seconds(30);
        due("18: already", x.lost(0), 0);
        due("18: lost(2)", x.lost(2), BEYOND);
        due("18: lost(-1)", x.lost(-1), BEYOND);
    }

    private static void p19Arrives() {
        BeamSeats x = new BeamSeats();
        x.thing(RIDER, 2);
        x.thing(THING, 30);
        x.thing(WASH, 2);
        due("19: at 30 in 15", x.arrives(0), 15);
        due("19: there already", x.arrives(1), 0);
        x.carry(1, 31);
        due("19: never", x.arrives(1), NONE);
        x.beam(0, 30);
        x.lay(1);
        due("19: at its goal, but on", x.arrives(1), NONE);
        x.set(1, GOAL, 58);
        due("19: lost at its goal is there, and not on", x.arrives(1), 14);
        x.take(1);
        x.beam(0, 0);
        x.set(2, GOAL, 27);
        due("19: dry and off at 27", x.arrives(2), 14);
        x.set(2, GOAL, 28);
        due("19: not at 28", x.arrives(2), NONE);
        due("19: arrives(3)", x.arrives(3), BEYOND);
        due("19: arrives(-1)", x.arrives(-1), BEYOND);
    }

    private static void p20Speed() {
        BeamSeats x = new BeamSeats();
        x.thing(WASH, 9);
        due("20: soonest there", x.speed(0, 1), 9);
        due("20: in two seconds", x.speed(0, 2), 9);
        x.thing(THING, 9);
        due("20: all the same", x.speed(1, 120), 1);
        x.thing(RIDER, 10);
        x.set(2, WET, 99);
        due("20: only the quickest, and only by 1", x.speed(2, 1), 10);
        x.turn(0, SHEET);
        due("20: no sheet comes on above 5", x.speed(0, 2), 5);
        due("20: the speed is as it was", x.now(2), 2);
        due("20: speed(3, 1)", x.speed(3, 1), BEYOND);
        due("20: speed(-1, 1)", x.speed(-1, 1), BEYOND);
        due("20: speed(0, 0)", x.speed(0, 0), BEYOND);
        due("20: speed(0, 121)", x.speed(0, 121), BEYOND);
    }

    private static void p21Far() {
        BeamSeats x = new BeamSeats();
        x.thing(RIDER, 2);
        x.thing(THING, 1);
        x.thing(THING, 1);
        x.beam(2, 6);
        x.set(1, OUT, 0);
        x.set(2, OUT, 0);
        x.lay(1);
        x.lay(2);
        due("21: at 0 lie two, at 1 it is borne", x.far(0, 1), 1);
        x.take(2);
        x.take(1);
        due("21: of several the least", x.far(0, 120), 0);
        due("21: out is as it was", x.of(0, OUT), 3);
        x.thing(WASH, 2);
        x.set(3, WET, 16);
        x.beam(2, 40);
        due("21: no nearer, more often", x.far(3, 31), 0);
        due("21: far(4, 1)", x.far(4, 1), BEYOND);
        due("21: far(-1, 1)", x.far(-1, 1), BEYOND);
        due("21: far(0, 0)", x.far(0, 0), BEYOND);
        due("21: far(0, 121)", x.far(0, 121), BEYOND);
    }

    private static void p22Kind() {
        BeamSeats x = new BeamSeats();
        x.thing(GUEST, 2);
        due("22: a sheet dries most", x.kind(0, 1), SHEET);
        due("22: in the end a wash is as dry", x.kind(0, 120), WASH);
        x.set(0, WET, 0);
        due("22: of several the least", x.kind(0, 5), THING);
        x.set(0, WET, 50);
        x.beam(1, 6);
        due("22: no sheet comes on with speed 6", x.kind(0, 1), WASH);
        due("22: the kind is as it was", x.of(0, 0), GUEST);
        x.thing(THING, 1);
        x.set(1, OUT, 0);
        x.lay(1);
        x.set(0, WET, 99);
        x.beam(2, 8);
        due("22: all but a thief weigh too much", x.kind(0, 1), THIEF);
        due("22: kind(2, 1)", x.kind(2, 1), BEYOND);
        due("22: kind(-1, 1)", x.kind(-1, 1), BEYOND);
        due("22: kind(0, 0)", x.kind(0, 0), BEYOND);
        due("22: kind(0, 121)", x.kind(0, 121), BEYOND);
    }

    private static void p23Thick() {
        BeamSeats x = new BeamSeats();
        x.thing(RIDER, 2);
        x.thing(RIDER, 2);
        due("23: none needed", x.thick(1, 0), 1);
        due("23: one", x.thick(1, 1), 10);
        due("23: two", x.thick(1, 2), 14);
        due("23: three there are not", x.thick(1, 3), NONE);
        due("23: not yet", x.thick(0, 1), NONE);
        x.lay(0);
        due("23: one that is on stays on", x.thick(0, 1), 1);
        due("23: the beam is as it was", x.now(3), 20);
        due("23: thick(120, 8)", x.thick(120, 8), NONE);
        for (int i = 0; i < 8; i++) {
            x.thing(RIDER, 2);
            x.set(i, OUT, 4);
        }
        due("23: all eight, one on already", x.thick(1, 8), 40);
        x.take(0);
        x.carry(0, 2);
        due("23: all eight, none on yet", x.thick(1, 8), 40);
        x.set(7, OUT, 0);
        x.set(6, OUT, 5);
        x.set(5, OUT, 5);
        due("23: by two outs", x.thick(1, 8), 28);
        due("23: thick(-1, 0)", x.thick(-1, 0), BEYOND);
        due("23: thick(121, 0)", x.thick(121, 0), BEYOND);
        due("23: thick(0, -1)", x.thick(0, -1), BEYOND);
        due("23: thick(0, 9)", x.thick(0, 9), BEYOND);
    }

    private static void p24Save() {
        BeamSeats x = new BeamSeats();
        due("24: none is on", x.save(1), NONE);
        x.thing(THING, 3);
        x.thing(RIDER, 3);
        x.thing(THING, 3);
        x.thing(THING, 3);
        x.lay(1);
        x.lay(2);
        x.lay(3);
        due("24: no one is lost so soon", x.save(28), 1);
        due("24: the rider is safe, a thing is not", x.save(29), 2);
        due("24: it is on still", x.now(4), 14);
        x.lay(0);
        due("24: the first, and then two are lost", x.save(120), 0);
        due("24: save(0)", x.save(0), BEYOND);
        due("24: save(121)", x.save(121), BEYOND);
        for (int i = 0; i < 4; i++) {
            x.take(i);
        }
        due("24: none again", x.save(120), NONE);
        due("24: beyond comes first", x.save(0), BEYOND);
    }

    private static void p25Goal() {
        BeamSeats x = new BeamSeats();
        x.thing(RIDER, 4);
        x.thing(THING, 4);
        due("25: the next bearing that the same round comes to", x.goal(0), 5);
        x.beam(1, 4);
        due("25: in the second behind", x.goal(0), 5);
        x.beam(1, 5);
        due("25: in the first", x.goal(0), 5);
        due("25: a thing never", x.goal(1), NONE);
        x.beam(0, 57);
        x.beam(1, 2);
        x.lay(1);
        due("25: a thing arrives at sea", x.goal(1), 58);
        due("25: the goal is as it was", x.of(1, GOAL), 30);
        due("25: goal(2)", x.goal(2), BEYOND);
        due("25: goal(-1)", x.goal(-1), BEYOND);
        x = new BeamSeats();
        x.thing(RIDER, 4);
        x.beam(0, 59);
        x.beam(1, 1);
        x.lay(0);
        due("25: one that is on", x.goal(0), 0);
        x.thing(RIDER, 58);
        x.beam(0, 58);
        due("25: 60 to come by, 2 more", x.goal(1), 59);
    }

    private static void p26Feed() {
        BeamSeats x = new BeamSeats();
        due("26: feed(0, 0)", x.feed(0, 0), BEYOND);
        due("26: feed(0, 5)", x.feed(0, 5), BEYOND);
        due("26: feed(0, -1)", x.feed(0, -1), BEYOND);
        for (int k = 1; k < 30; k++) {
            due("26: how many", x.feed(0x20202020, 4), 4 * k);
        }
        due("26: three more", x.feed(-1, 3), 119);
        due("26: no two more", x.feed(0, 2), FULL);
        due("26: one more", x.feed(0, 1), 120);
        due("26: full", x.feed(0, 1), FULL);
        due("26: beyond comes first", x.feed(0, 0), BEYOND);
        due("26: bytes", x.count(1), 120);
        due("26: the highest first, and the signs are cut", x.island(), -1 - 116);
        x.feed(0x7a626561, 3);
        x.feed(0x6d203539, 4);
        due("26: beam 59, only the lowest bytes", x.island(), 1);
        due("26: the beam", x.now(1), 59);
    }

    private static void p27Wipe() {
        BeamSeats x = new BeamSeats();
        x.feed(0x41424344, 4);
        x.feed(0x41, 1);
        due("27: had", x.wipe(), 5);
        due("27: empty", x.count(1), 0);
        due("27: again", x.wipe(), 0);
        due("27: an empty text ends too early", x.island(), -1);
    }

    private static int tell(BeamSeats x, String text) {
        for (int k = 0; k < text.length(); k++) {
            x.feed(text.charAt(k), 1);
        }
        return x.island();
    }

    private static void p28IslandItems() {
        BeamSeats x = new BeamSeats();
        due("28: one of all", tell(x, "sheet 12 out 9 wet 98 goal 7"), 1);
        int[] due = {SHEET, 12, 9, 0, 98, 7, 0, 0, 5, 7};
        for (int what = 0; what < due.length; what++) {
            due("28: of(0, " + what + ")", x.of(0, what), due[what]);
        }
        due("28: the tape is empty", x.count(1), 0);
        due("28: no blanks", tell(x, "thief5wet0;rider6goal59;guest0out0;wash59;thing007"), 5);
        due("28: six there are", x.count(0), 6);
        due("28: the wet", x.of(1, WET), 0);
        due("28: the goal", x.of(2, GOAL), 59);
        due("28: the out", x.of(3, OUT), 0);
        due("28: the bearing", x.of(4, AT), 59);
        due("28: zeros before", x.of(5, AT), 7);
        due("28: what isn't told", x.of(5, OUT), 3);
        due("28: blanks about", tell(x, "  beam  7 ;speed 10;  thick 40  "), 3);
        due("28: beam", x.now(1), 7);
        due("28: speed", x.now(2), 10);
        due("28: thick", x.now(3), 40);
        due("28: the last stands", tell(x, "speed 1;speed 3"), 2);
        due("28: speed", x.now(2), 3);
        x.lay(0);
        x.beam(0, 3);
        due("28: the beam moves", tell(x, "beam 9"), 1);
        due("28: who is on it stays", x.of(0, AT), 7);
        due("28: no finding at all", x.status(-1), 0);
    }

    private static void p28IslandFaults() {
        String[] texts = {"", "   ", "thing", "thing ", "thing 60", "thing 1000", "thing 99999999999", "thing 5 5",
            "thing 5 goal 3 out 2", "thing 5 wet 3 wet 2", "thing 5 out 10", "thing 5 wet 100", "thing 5 goal 60",
            "thing 5 out", "thing 5;", "thing 5;;", ";", "5", "beam", "beam 60", "beam 5 5", "beam 5 out 3",
            "speed 0", "speed 11", "thick 0", "thick 41", "things 5", "thin 5", "Thing 5", "thing -5", "thing 5 #",
            "thing 5, beam 4", "beam 1;beam 2;bean 3", "out 3", "thing thing", "beam 5 speed 4", "thing\t5",
            "beamz 5", "xeam 5", "beamaa 5", "{", "`", "/", ":", "beam 5;goal 5", "speed 5;wet 5"};
        int[] faults = {0, 3, 5, 6, 6, 6, 6, 8,
            15, 14, 12, 12, 13,
            11, 8, 8, 0, 0, 4, 5, 7, 7,
            6, 6, 6, 6, 0, 0, 0, 6, 8,
            7, 14, 0, 6, 7, 5,
            0, 0, 0, 0, 0, 0, 0, 7, 8};
        for (int k = 0; k < texts.length; k++) {
            BeamSeats x = new BeamSeats();
            due("28: '" + texts[k] + "'", tell(x, texts[k]), -1 - faults[k]);
            due("28: nothing came", x.count(0), 0);
            due("28: nothing is on the tape", x.count(1), 0);
            due("28: no finding", x.status(-1), 0);
        }
        BeamSeats x = new BeamSeats();
        due("28: the last is at fault", tell(x, "wash 1;beam 5;speed 5;thick 5;wash 1 out 2 wet 3 goal 4;z"), -1 - 56);
        due("28: so no thing came", x.count(0), 0);
        due("28: beam", x.now(1), 0);
        due("28: speed", x.now(2), 2);
        due("28: thick", x.now(3), 20);
        due("28: as many tokens as bytes", tell(x, ";".repeat(120)), -1);
        due("28: a word in a full tape", tell(x, "beam 1;" + " ".repeat(112) + "x"), -1 - 119);
        due("28: ends too early, full", tell(x, "beam 1;" + " ".repeat(113)), -1 - 120);
        due("28: bytes above 127 begin no token", tell(x, "beam 1" + (char) 233), -1 - 6);
    }

    private static void p28IslandNinth() {
        BeamSeats x = new BeamSeats();
        for (int k = 0; k < 6; k++) {
            x.thing(THING, 0);
        }
        due("28: a ninth", tell(x, "wash 1;wash 2; wash 60"), -1 - 15);
        due("28: six still", x.count(0), 6);
        due("28: bearing 0, thick 1", tell(x, "beam 0;thick 1;speed 1"), 3);
        due("28: thick", x.now(3), 1);
        due("28: eight", tell(x, "wash 1;wash 2;beam 4"), 3);
        due("28: eight there are", x.count(0), 8);
        due("28: a ninth at once", tell(x, "wash 1"), -1);
        due("28: an item that is no thing", tell(x, "beam 1"), 1);
    }

    private static void p29Sheet() {
        BeamSeats x = new BeamSeats();
        due("29: 8 bits", x.sheet(0, 8, 40), 40);
        due("29: 16 bits", x.sheet(1, 16, 1), 1);
        due("29: 64 bits", x.sheet(3, 64, 0), 0);
        due("29: sheet(-1, 8, 1)", x.sheet(-1, 8, 1), BEYOND);
        due("29: sheet(4, 8, 1)", x.sheet(4, 8, 1), BEYOND);
        int[] otherBits = {-8, 1, 7, 9, 32, 65};
        for (int bits : otherBits) {
            due("29: bits " + bits, x.sheet(0, bits, -1), BEYOND);
        }
        due("29: n below 0", x.sheet(0, 8, -1), SIZE);
        due("29: n below 0 with bits 0", x.sheet(0, 0, -1), SIZE);
        due("29: n above 40", x.sheet(0, 8, 41), BEYOND);
        due("29: n above 40 with bits 0", x.sheet(0, 0, 41), BEYOND);
        due("29: it is there as it was", x.write(0, 39, 5), 0);
        due("29: made anew", x.sheet(0, 8, 40), 40);
        due("29: all 0", x.write(0, 39, 5), 0);
        x.write(0, 0, 7);
        x.sheet(0, 8, 1);
        due("29: the first too", x.write(0, 0, 5), 0);
        due("29: missing", x.sheet(0, 0, 40), 0);
        due("29: missing indeed", x.write(0, 0, 5), MISSING);
        due("29: one without numbers isn't missing", x.write(3, 0, 5), BEYOND);
    }

    private static void p30Write() {
        BeamSeats x = new BeamSeats();
        x.sheet(0, 8, 2);
        x.sheet(1, 16, 2);
        x.sheet(2, 64, 2);
        due("30: at first", x.write(0, 1, 127), 0);
        due("30: what it was", x.write(0, 1, 256 + 5), 127);
        due("30: the lowest 8 bits", x.write(0, 1, 128), 5);
        due("30: with their sign", x.write(0, 1, 0), -128);
        due("30: at first", x.write(1, 0, 65536L + 300), 0);
        due("30: the lowest 16 bits", x.write(1, 0, 65535), 300);
        due("30: with their sign", x.write(1, 0, 0), -1);
        due("30: at first", x.write(2, 0, Long.MIN_VALUE), 0);
        due("30: all 64 bits", x.write(2, 0, BEYOND), Long.MIN_VALUE);
        due("30: a number like a finding", x.write(2, 0, 0), BEYOND);
        due("30: is none", x.status(-1), 0);
        due("30: write(-1, 0, 0)", x.write(-1, 0, 0), BEYOND);
        due("30: write(4, 0, 0)", x.write(4, 0, 0), BEYOND);
        due("30: missing comes before the number", x.write(3, -1, 0), MISSING);
        due("30: write(0, -1, 0)", x.write(0, -1, 0), BEYOND);
        due("30: write(0, 2, 0)", x.write(0, 2, 0), BEYOND);
        due("30: four findings", x.status(0), 4);
    }

    private static void p31Copy() {
        BeamSeats x = new BeamSeats();
        x.sheet(0, 16, 5);
        x.sheet(1, 16, 3);
        x.sheet(2, 64, 3);
        for (int i = 0; i < 5; i++) {
            x.write(0, i, i + 1);
        }
        due("31: two", x.copy(0, 3, 1, 1, 2), 2);
        long[] due = {0, 4, 5};
        for (int i = 0; i < 3; i++) {
            due("31: came " + i, x.write(1, i, due[i]), due[i]);
        }
        due("31: over itself", x.copy(0, 0, 0, 1, 4), 4);
        long[] shifted = {1, 1, 2, 3, 4};
        for (int i = 0; i < 5; i++) {
            due("31: as they all were " + i, x.write(0, i, i), shifted[i]);
        }
        due("31: back over itself", x.copy(0, 1, 0, 0, 4), 4);
        long[] back = {1, 2, 3, 4, 4};
        for (int i = 0; i < 5; i++) {
            due("31: as they all were " + i, x.write(0, i, i), back[i]);
        }
        due("31: none", x.copy(0, 5, 1, 3, 0), 0);
        due("31: no such sheet", x.copy(4, 0, 3, 0, 0), BEYOND);
        due("31: no such other", x.copy(3, 0, -1, 0, 0), BEYOND);
        due("31: no such other above", x.copy(0, 0, 4, 0, 0), BEYOND);
        due("31: missing", x.copy(3, 0, 0, 0, 0), MISSING);
        due("31: the other is missing", x.copy(0, -1, 3, 0, 0), MISSING);
        due("31: other bits", x.copy(0, -1, 2, 0, 0), KIND);
        int[][] beyond = {{0, 0, 4}, {4, 0, 2}, {0, 2, 2}, {-1, 0, 1}, {0, -1, 1}, {0, 0, -1}, {6, 0, 0}, {0, 4, 0},
            {Integer.MAX_VALUE, 0, Integer.MAX_VALUE}, {1, 1, Integer.MAX_VALUE}, {0, 0, Integer.MIN_VALUE}};
        for (int[] b : beyond) {
            due("31: copy(0, " + b[0] + ", 1, " + b[1] + ", " + b[2] + ")", x.copy(0, b[0], 1, b[1], b[2]), BEYOND);
        }
    }

    private static void p32Lays() {
        BeamSeats x = new BeamSeats();
        for (int i = 0; i < 5; i++) {
            x.thing(WASH, 1);
        }
        x.sheet(0, 64, 7);
        long[] numbers = {0, 99, 100, -1, (1L << 32) + 5, 7, 8};
        for (int i = 0; i < 7; i++) {
            x.write(0, i, numbers[i]);
        }
        due("32: two came", x.lays(0), 2);
        int[] wets = {0, 99, 50, 50, 50};
        for (int i = 0; i < 5; i++) {
            due("32: wet of " + i, x.of(i, WET), wets[i]);
        }
        x.sheet(1, 8, 1);
        x.write(1, 0, 33);
        due("32: one came", x.lays(1), 1);
        due("32: it", x.of(0, WET), 33);
        x.sheet(1, 8, 0);
        due("32: none came", x.lays(1), 0);
        due("32: missing", x.lays(2), MISSING);
        due("32: lays(-1)", x.lays(-1), BEYOND);
        due("32: lays(4)", x.lays(4), BEYOND);
    }

    private static void p33Book() {
        BeamSeats x = new BeamSeats();
        x.thing(RIDER, 3);
        x.set(0, GOAL, 7);
        x.sheet(0, 8, 6);
        due("33: six", x.book(0, 0), 6);
        long[] due = {3, 3, 4, 6, 7, 7};
        for (int i = 0; i < 6; i++) {
            due("33: in " + i, x.write(0, i, 0), due[i]);
        }
        due("33: nothing changes", x.now(0), 0);
        x.sheet(1, 64, 0);
        due("33: none", x.book(1, 0), 0);
        due("33: book(4, 0)", x.book(4, 0), BEYOND);
        due("33: book(-1, 0)", x.book(-1, 0), BEYOND);
        due("33: missing comes before the thing", x.book(2, 1), MISSING);
        due("33: book(0, 1)", x.book(0, 1), BEYOND);
        due("33: book(0, -1)", x.book(0, -1), BEYOND);
    }

    private static void p34Read() {
        BeamSeats x = new BeamSeats();
        x.thing(RIDER, 3);
        x.sheet(0, 16, 0);
        due("34: all make nothing", x.read(0, 0), 60);
        x.sheet(0, 16, 1);
        due("34: none begins at 0", x.read(0, 0), 0);
        x.write(0, 0, 3);
        due("34: all begin at 3", x.read(0, 0), 60);
        x.sheet(0, 16, 2);
        x.write(0, 0, 3);
        x.write(0, 1, 4);
        // with speed 4: wash, rider, guest, sheet; a thing and a thief alone stay
        due("34: on at 3, at 4 then", x.read(0, 0), 4);
        x.write(0, 1, 8);
        // with speed 8 no sheet comes on
        due("34: at 8", x.read(0, 0), 3);
        x.write(0, 1, 65536 + 3);
        // a thing and a thief stay with all speeds; the others are at 3 with 1 to 3, a sheet above 5 too
        due("34: at 3", x.read(0, 0), 10 + 10 + 4 * 3 + 5);
        due("34: nothing changes", x.of(0, 0), RIDER);
        due("34: nor does the speed", x.now(2), 2);
        due("34: read(4, 0)", x.read(4, 0), BEYOND);
        due("34: read(-1, 0)", x.read(-1, 0), BEYOND);
        due("34: missing comes before the thing", x.read(1, 1), MISSING);
        due("34: read(0, 1)", x.read(0, 1), BEYOND);
        due("34: read(0, -1)", x.read(0, -1), BEYOND);
    }

    private static void p35Image() {
        BeamSeats x = new BeamSeats();
        x.thing(WASH, 3);
        due("35: kept", x.image(), 1);
        x.thing(WASH, 3);
        due("35: kept anew", x.image(), 1);
        x.thing(WASH, 3);
        due("35: the latest", x.undo(), 2);
    }

    private static void p36Undo() {
        BeamSeats x = new BeamSeats();
        due("36: nothing is kept", x.undo(), NONE);
        x.thing(THING, 3);
        x.thing(THIEF, 3);
        x.set(1, OUT, 1);
        x.set(1, WET, 2);
        x.set(1, GOAL, 4);
        x.set(1, TIMES, 5);
        x.lay(0);
        x.seconds(29);
        x.lay(1);
        x.beam(1, 7);
        x.beam(2, 8);
        x.feed(0x41, 1);
        x.image();
        x.feed(0x41, 1);
        x.sheet(0, 8, 3);
        x.turn(1, GUEST);
        x.set(1, OUT, 2);
        x.set(1, WET, 3);
        x.set(1, GOAL, 5);
        x.set(1, TIMES, 6);
        x.carry(0, 9);
        x.seconds(3);
        x.beam(0, 1);
        x.beam(1, 1);
        x.beam(2, 1);
        x.thing(RIDER, 1);
        x.set(2, OUT, 8);
        x.set(2, GOAL, 8);
        x.set(2, TIMES, 8);
        x.of(9, 9);
        due("36: two", x.undo(), 2);
        int[] now = {29, 58, 7, 8, 2, 1, 2};
        for (int what = 0; what < now.length; what++) {
            due("36: now(" + what + ")", x.now(what), now[what]);
        }
        // the thief came on at 3 and went off at 4 before it was laid on: 5 and 2 times
        int[] of = {THIEF, 58, 1, 1, 2, 4, 0, 7, 2, 1};
        for (int what = 0; what < of.length; what++) {
            due("36: of(1, " + what + ")", x.of(1, what), of[what]);
        }
        due("36: at sea again", x.of(0, AT), 58);
        due("36: the tape is not kept", x.count(1), 2);
        due("36: nor are sheets", x.write(0, 2, 1), 0);
        due("36: nor is the status", x.status(-1), 2);
        x.take(1);
        due("36: it stays", x.undo(), 2);
        due("36: on again", x.now(4), 2);
        due("36: a new one is new", x.thing(WASH, 8), 2);
        int[] fresh = {WASH, 8, 3, 0, 50, 30, 0, 0, 3, 4};
        for (int what = 0; what < fresh.length; what++) {
            due("36: its " + what, x.of(2, what), fresh[what]);
        }
    }

    private static void p37Tear() {
        BeamSeats x = new BeamSeats();
        due("37: nothing is kept", x.tear(), 0);
        x.image();
        x.image();
        due("37: something was", x.tear(), 1);
        due("37: not any more", x.tear(), 0);
        due("37: so none comes back", x.undo(), NONE);
        x.image();
        due("37: kept again", x.undo(), 0);
    }

    private static void p38Count() {
        BeamSeats x = new BeamSeats();
        x.thing(WASH, 3);
        x.thing(RIDER, 3);
        x.set(0, WET, 99);
        x.set(1, TIMES, 9999);
        x.lay(0);
        x.feed(0, 3);
        due("38: things", x.count(0), 2);
        due("38: bytes", x.count(1), 3);
        due("38: wet", x.count(2), 149);
        due("38: times", x.count(3), 10000);
        due("38: count(-1)", x.count(-1), BEYOND);
        due("38: count(4)", x.count(4), BEYOND);
    }

    private static void p39Status() {
        BeamSeats x = new BeamSeats();
        x.of(0, 0);
        x.now(9);
        for (int k = 0; k < 30; k++) {
            x.feed(0, 4);
        }
        x.feed(0, 1);
        x.thing(WASH, 1);
        x.as(0, RIDER);
        x.undo();
        x.gets(0);
        x.thick(0, 1);
        x.take(0);
        x.write(0, 0, 0);
        x.lays(0);
        x.sheet(0, 8, -1);
        int[] due = {2, 1, 1, 2, 1, 2, 1};
        for (int which = 0; which < 7; which++) {
            due("39: status(" + which + ")", x.status(which), due[which]);
        }
        due("39: all", x.status(-1), 10);
        due("39: status(7)", x.status(7), BEYOND);
        due("39: status(-2)", x.status(-2), BEYOND);
        due("39: these are counted", x.status(0), 4);
        due("39: all", x.status(-1), 12);
        x.image();
        x.now(9);
        x.undo();
        due("39: undo takes none back", x.status(-1), 13);
    }
}
