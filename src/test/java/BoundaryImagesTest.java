/** The boundaries that promises 35 to 39 name: images, counts, the status. */
public final class BoundaryImagesTest extends Boundary {
    public static void main(String[] args) {
        p35OfNothing();
        p35TheLatest();
        p35IsApartFromWhatIs();
        p36NothingIsKept();
        p36WhichStays();
        p36AllThatSection1Tells();
        p36NotTheTapeNorSheets();
        p36EmptyAndFull();
        p36FromTheLastSecond();
        p37SomethingOrNothing();
        p37ChangesNothingElse();
        p38Whats();
        p38EmptyAndMost();
        p38OfThoseThatAreThere();
        p39WhichIsMinus1To6();
        p39AnotherOneIsCounted();
        p39UndoTakesNoneBack();
        p39NoFindingNoCount();
        p39ManyFindings();
        end();
    }

    /** An image of a new object is one: the object comes back empty. */
    private static void p35OfNothing() {
        BeamSeats x = new BeamSeats();
        due("35: image() of nothing", x.image(), 1);
        x.thing(WASH, 1);
        x.beam(BEAM, 5);
        x.seconds(3);
        due("35: back to nothing", x.undo(), 0);
        int[] now = {0, 0, 2, 20, 0, 0, 0};
        for (int what = 0; what < 7; what++) {
            due("35: now(" + what + ")", x.now(what), now[what]);
        }
        due("35: no thing", x.of(0, 0), BEYOND);
    }

    /** "is kept: 1.": each image, and only the latest is kept. */
    private static void p35TheLatest() {
        BeamSeats x = new BeamSeats();
        for (int k = 0; k < 8; k++) {
            x.thing(THING, k);
            due("35: image() " + k, x.image(), 1);
        }
        x.carry(7, 50);
        due("35: the latest", x.undo(), 8);
        due("35: as it was", x.of(7, AT), 7);
        due("35: none before it", x.undo(), 8);
        due("35: one to tear", x.tear(), 1);
        due("35: none behind", x.undo(), NONE);
    }

    /** What changes behind the image, or behind undo(), doesn't change what is kept. */
    private static void p35IsApartFromWhatIs() {
        BeamSeats x = after(Boundary::busy);
        x.image();
        for (int round = 0; round < 2; round++) {
            x.set(0, OUT, 9);
            x.set(0, WET, 98);
            x.set(0, GOAL, 1);
            x.set(0, TIMES, 77);
            x.turn(0, GUEST);
            x.take(0);
            x.carry(0, 44);
            x.carry(6, 44);
            x.lay(7);
            x.beam(BEAM, 44);
            x.beam(SPEED, 9);
            x.beam(THICK, 39);
            x.seconds(7);
            due("36: undo() " + round, x.undo(), 8);
        }
        BeamSeats twin = after(Boundary::busy);
        twin.image();
        alike("36: as if nothing had been", x, twin);
    }

    private static void tornBusy(BeamSeats x) {
        busy(x);
        x.tear();
    }

    /** "NONE: nothing is kept.": at first, and once it is torn. */
    private static void p36NothingIsKept() {
        refused("36: undo() at first", Boundary::nothing, x -> x.undo(), NONE);
        refused("36: undo() of three", Boundary::three, x -> x.undo(), NONE);
        refused("36: undo() of what is torn", BoundaryImagesTest::tornBusy, x -> x.undo(), NONE);
    }

    /** "(which stays)": as often as one likes. */
    private static void p36WhichStays() {
        BeamSeats x = after(Boundary::busy);
        for (int k = 0; k < 5; k++) {
            due("36: undo() " + k, x.undo(), 1);
            due("36: its WET", x.of(0, WET), 12);
            due("36: THICK", x.now(3), 31);
            x.set(0, WET, k);
            x.beam(THICK, 1 + k);
            x.thing(THIEF, k);
        }
    }

    /** "All that section 1 tells": SECOND, BEAM, SPEED, THICK, and of each thing all ten. */
    private static void p36AllThatSection1Tells() {
        BeamSeats x = after(Boundary::busy);
        BeamSeats twin = after(Boundary::busy);
        x.image();
        x.seconds(200);
        x.beam(SPEED, 10);
        x.beam(THICK, 40);
        due("36: eight", x.undo(), 8);
        for (int what = 0; what < 7; what++) {
            due("36: now(" + what + ")", x.now(what), twin.now(what));
        }
        for (int i = 0; i < 8; i++) {
            for (int what = 0; what < 10; what++) {
                due("36: of(" + i + ", " + what + ")", x.of(i, what), twin.of(i, what));
            }
        }
        due("36: what comes then", x.seconds(17), twin.seconds(17));
        due("36: and is lost", x.now(5), twin.now(5));
    }

    /** "(THE TAPE not)": neither kept nor brought back; sheets stay as they are too. */
    private static void p36NotTheTapeNorSheets() {
        BeamSeats x = new BeamSeats();
        tape(x, "beam 5");
        x.sheet(0, 8, 2);
        x.write(0, 0, 9);
        x.image();
        due("35: the tape stays", x.count(1), 6);
        tape(x, "7");
        x.write(0, 0, 11);
        x.sheet(1, 16, 1);
        x.undo();
        due("36: the tape as it is", x.count(1), 7);
        due("36: 'beam 57'", x.island(), 1);
        due("36: BEAM", x.now(1), 57);
        due("36: a sheet as it is", x.write(0, 0, 0), 11);
        due("36: a new one too", x.write(1, 0, 0), 0);
        x.undo();
        due("36: the tape stays empty", x.count(1), 0);
        due("36: BEAM as it was", x.now(1), 0);
    }

    /** From eight to none, and from none to eight. */
    private static void p36EmptyAndFull() {
        BeamSeats x = new BeamSeats();
        x.image();
        for (int i = 0; i < 8; i++) {
            x.thing(THING, 57);
            x.set(i, OUT, i / 4);
            x.lay(i);
        }
        due("36: to none", x.undo(), 0);
        due("36: nothing is on", x.now(4), 0);
        due("36: nothing can be taken", x.take(0), BEYOND);
        for (int i = 0; i < 8; i++) {
            due("36: one more", x.thing(WASH, 5), i);
            due("36: it isn't on", x.of(i, ON), 0);
            due("36: it lies at OUT", x.of(i, OUT), 3);
        }
        due("36: full", x.thing(WASH, 5), FULL);
        x.image();
        due("36: to eight", x.undo(), 8);
        due("36: full still", x.thing(WASH, 5), FULL);
    }

    /** SECOND comes back too: from the last one there is time again. */
    private static void p36FromTheLastSecond() {
        BeamSeats x = new BeamSeats();
        x.image();
        for (int k = 0; k < 499; k++) {
            x.seconds(200);
        }
        x.seconds(199);
        due("36: no second more", x.seconds(1), STATE);
        due("36: back", x.undo(), 0);
        due("36: SECOND", x.now(0), 0);
        due("36: there is time", x.seconds(200), 0);
        due("36: SECOND goes on", x.now(0), 200);
    }

    /** "1 if something was, else 0", no finding either way. */
    private static void p37SomethingOrNothing() {
        looks("37: tear() at first", Boundary::nothing, x -> x.tear(), 0);
        BeamSeats x = new BeamSeats();
        x.image();
        x.image();
        due("37: tear() of the second image", x.tear(), 1);
        due("37: the first is not kept either", x.tear(), 0);
        x.image();
        due("37: kept anew", x.tear(), 1);
        x.image();
        x.undo();
        due("37: undo() doesn't tear", x.tear(), 1);
        due("37: no finding", x.status(-1), 0);
    }

    /** "Nothing is kept": the island, the tape and the sheets are as they were. */
    private static void p37ChangesNothingElse() {
        BeamSeats x = after(Boundary::busy);
        BeamSeats twin = after(Boundary::busy);
        due("37: tear()", x.tear(), 1);
        x.image();
        twin.image();
        alike("37: all else", x, twin);
    }

    /** "0 THINGS, 1 bytes of THE TAPE, 2 WET of all together, 3 TIMES of all together. BEYOND: another what." */
    private static void p38Whats() {
        // WET: 12 99 50 50 50 50 50 0, TIMES: 1 0 1 1 0 1 1 9999
        int[] due = {8, 7, 12 + 99 + 5 * 50, 5 + 9999};
        for (int what = 0; what < 4; what++) {
            int one = what;
            looks("38: count(" + what + ")", Boundary::busy, x -> x.count(one), due[what]);
            looks("38: count(" + what + ") of nothing", Boundary::nothing, x -> x.count(one), 0);
        }
        int[] others = {-1, 4, MIN, MAX};
        for (int what : others) {
            refused("38: count(" + what + ")", Boundary::busy, x -> x.count(what), BEYOND);
            refused("38: count(" + what + ") of nothing", Boundary::nothing, x -> x.count(what), BEYOND);
        }
    }

    /** The most there can be: eight things, 120 bytes, WET 99 and TIMES 9999 of each. */
    private static void p38EmptyAndMost() {
        BeamSeats x = new BeamSeats();
        for (int i = 0; i < 8; i++) {
            due("38: things", x.count(0), i);
            due("38: WET", x.count(2), 99 * i);
            due("38: TIMES", x.count(3), 9999 * i);
            x.thing(THING, 1);
            x.set(i, WET, 99);
            x.set(i, TIMES, 9999);
        }
        due("38: eight things", x.count(0), 8);
        due("38: their WET", x.count(2), 792);
        due("38: their TIMES", x.count(3), 79992);
        for (int k = 1; k <= 30; k++) {
            x.feed(0, 4);
            due("38: bytes", x.count(1), 4 * k);
        }
        x.thing(THING, 1);
        x.feed(0, 1);
        due("38: no ninth thing", x.count(0), 8);
        due("38: no 121st byte", x.count(1), 120);
        x.wipe();
        due("38: no byte", x.count(1), 0);
    }

    /** "of all": of those that are there, not of those that were before the image came back. */
    private static void p38OfThoseThatAreThere() {
        BeamSeats x = after(Boundary::busy);
        due("38: undo() leaves one", x.undo(), 1);
        due("38: things", x.count(0), 1);
        due("38: its WET", x.count(2), 12);
        due("38: its TIMES", x.count(3), 0);
        due("38: the tape is as it was", x.count(1), 7);
    }

    /** One finding of each, in the order BEYOND to SIZE, each more often than the one before. */
    private static void findings(BeamSeats x) {
        busy(x);
        for (int k = 0; k < 7; k++) {
            x.sheet(0, 8, -1);
            if (k < 6) {
                x.lays(2);
            }
            if (k < 5) {
                x.take(1);
            }
            if (k < 4) {
                x.gets(6);
            }
            if (k < 3) {
                x.as(0, 1);
            }
            if (k < 2) {
                x.thing(0, 0);
            }
        }
    }

    /** "which -1: all, 0 to 6: BEYOND to SIZE"; busy has had one BEYOND. */
    private static void p39WhichIsMinus1To6() {
        BeamSeats x = after(BoundaryImagesTest::findings);
        int[] due = {28, 1, 2, 3, 4, 5, 6, 7};
        for (int which = -1; which < 7; which++) {
            due("39: status(" + which + ")", x.status(which), due[which + 1]);
        }
        for (int which = -1; which < 7; which++) {
            due("39: asking adds none, status(" + which + ")", x.status(which), due[which + 1]);
        }
    }

    /** "BEYOND (counted from then on): another one." */
    private static void p39AnotherOneIsCounted() {
        int[] others = {-2, 7, MIN, MAX, -1000000001};
        for (int which : others) {
            refused("39: status(" + which + ")", BoundaryImagesTest::findings, x -> x.status(which), BEYOND);
            BeamSeats x = new BeamSeats();
            due("39: status(" + which + ")", x.status(which), BEYOND);
            due("39: BEYOND is 1", x.status(0), 1);
            due("39: all are 1", x.status(-1), 1);
            due("39: status(" + which + ") again", x.status(which), BEYOND);
            due("39: BEYOND is 2", x.status(0), 2);
            due("39: all are 2", x.status(-1), 2);
        }
    }

    /** "(undo() takes none back)", and an undo() that finds nothing is counted itself. */
    private static void p39UndoTakesNoneBack() {
        BeamSeats x = new BeamSeats();
        due("39: nothing is kept", x.undo(), NONE);
        x.image();
        x.now(7);
        x.take(0);
        due("39: undo()", x.undo(), 0);
        due("39: all", x.status(-1), 3);
        due("39: BEYOND", x.status(0), 2);
        due("39: NONE", x.status(3), 1);
        x.tear();
        due("39: tear() takes none back", x.status(-1), 3);
    }

    /** Answers that are no findings aren't counted: 0, -1 and less from island(), numbers of a sheet. */
    private static void p39NoFindingNoCount() {
        BeamSeats x = new BeamSeats();
        x.island();
        tape(x, "x");
        x.island();
        x.wipe();
        x.tear();
        x.sheet(0, 64, 1);
        x.write(0, 0, BEYOND);
        due("39: a number like BEYOND", x.write(0, 0, SIZE), BEYOND);
        due("39: a number like SIZE", x.write(0, 0, 0), SIZE);
        for (int which = -1; which < 7; which++) {
            due("39: status(" + which + ")", x.status(which), 0);
        }
    }

    /** "ever": as many as an object may have calls. */
    private static void p39ManyFindings() {
        BeamSeats x = new BeamSeats();
        for (int k = 0; k < 510; k++) {
            x.undo();
        }
        due("39: NONE, 510 times", x.status(3), 510);
        due("39: all", x.status(-1), 510);
    }
}
