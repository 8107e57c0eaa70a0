/** The boundaries that promises 29 to 34 name: sheets. */
public final class BoundarySheetsTest extends Boundary {
    private static final int[] NO_SHEETS = {-1, 4, 32, MIN, MAX};

    public static void main(String[] args) {
        p29SheetIs0To3();
        p29Bits();
        p29NIs0To40();
        p29Order();
        p29MissingAnswers0();
        p29All0();
        p29ManyAndFew();
        p30NoSuchSheet();
        p30Missing();
        p30NumberIs0ToLast();
        p30Order();
        p30Of8Bits();
        p30Of16Bits();
        p30Of64Bits();
        p31NoSuchSheet();
        p31Missing();
        p31Kind();
        p31NotSoMany();
        p31Below0();
        p31Order();
        p31NoneAndAll();
        p31AsTheyAllWere();
        p32NoSuchSheetAndMissing();
        p32WetIs0To99();
        p32StandForNone();
        p32Empty();
        p33NoSuchSheet();
        p33Missing();
        p33Thing();
        p33AsManyAsItHas();
        p33OverTheRing();
        p34NoSuchSheet();
        p34Missing();
        p34Thing();
        p34NoNumbers();
        p34JustSo();
        p34Of64Bits();
        end();
    }

    private static void refusedSheet(int s, int bits, int n, int finding) {
        String call = "29: sheet(" + s + ", " + bits + ", " + n + ")";
        refused(call, Boundary::busy, x -> x.sheet(s, bits, n), finding);
    }

    /** "BEYOND: no such sheet" */
    private static void p29SheetIs0To3() {
        for (int s = 0; s < 4; s++) {
            BeamSeats x = after(Boundary::busy);
            due("29: sheet(" + s + ", 8, 5)", x.sheet(s, 8, 5), 5);
            due("29: it has a fifth", x.write(s, 4, 1), 0);
            due("29: it has no sixth", x.write(s, 5, 1), BEYOND);
        }
        for (int s : NO_SHEETS) {
            refusedSheet(s, 8, 1, BEYOND);
            refusedSheet(s, 0, 0, BEYOND);
        }
    }

    /** "BEYOND: .. other bits": only 0, 8, 16, 64. */
    private static void p29Bits() {
        int[] good = {8, 16, 64};
        for (int bits : good) {
            BeamSeats x = new BeamSeats();
            due("29: sheet(0, " + bits + ", 1)", x.sheet(0, bits, 1), 1);
            x.write(0, 0, Long.MAX_VALUE - 256);
            due("29: of " + bits + " bits", x.write(0, 0, 0), bits == 64 ? Long.MAX_VALUE - 256 : bits == 16 ? -257 : -1);
        }
        int[] others = {-64, -8, -1, 1, 4, 7, 9, 15, 17, 24, 32, 48, 63, 65, 128, 256, 264, MIN, MAX};
        for (int bits : others) {
            refusedSheet(0, bits, 1, BEYOND);
            refusedSheet(2, bits, 1, BEYOND);
        }
    }

    /** "SIZE: n is below 0 (also with bits 0). BEYOND: n is above 40 (also with bits 0)." */
    private static void p29NIs0To40() {
        int[] allBits = {0, 8, 16, 64};
        for (int bits : allBits) {
            int[] good = {0, 1, 39, 40};
            for (int n : good) {
                BeamSeats x = after(Boundary::busy);
                due("29: sheet(0, " + bits + ", " + n + ")", x.sheet(0, bits, n), bits == 0 ? 0 : n);
                due("29: its last", x.write(0, n - 1, 7), bits == 0 ? MISSING : n == 0 ? BEYOND : 0);
                due("29: behind its last", x.write(0, n, 7), bits == 0 ? MISSING : BEYOND);
            }
            int[] below = {-1, -40, MIN};
            for (int n : below) {
                refusedSheet(0, bits, n, SIZE);
                refusedSheet(2, bits, n, SIZE);
            }
            int[] above = {41, 256, MAX};
            for (int n : above) {
                refusedSheet(0, bits, n, BEYOND);
                refusedSheet(2, bits, n, BEYOND);
            }
        }
    }

    /** BEYOND for the sheet or its bits is asked before SIZE. */
    private static void p29Order() {
        refusedSheet(4, 8, -1, BEYOND);
        refusedSheet(-1, 0, -1, BEYOND);
        refusedSheet(0, 7, -1, BEYOND);
        refusedSheet(0, 32, MIN, BEYOND);
        refusedSheet(4, 7, 41, BEYOND);
    }

    /** "bits 0: it is MISSING: n (0 if it is MISSING)" */
    private static void p29MissingAnswers0() {
        BeamSeats x = after(Boundary::busy);
        due("29: sheet(0, 0, 40)", x.sheet(0, 0, 40), 0);
        due("29: it is missing", x.lays(0), MISSING);
        due("29: sheet(0, 0, 0) again", x.sheet(0, 0, 0), 0);
        due("29: it is missing still", x.lays(0), MISSING);
        due("29: sheet(0, 64, 0)", x.sheet(0, 64, 0), 0);
        due("29: one without numbers isn't", x.lays(0), 0);
        due("29: the others are as they were", x.write(1, 0, 0), 100);
    }

    /** "n numbers, all 0": made anew, with the same, fewer or more bits; and back from MISSING. */
    private static void p29All0() {
        int[] allBits = {8, 16, 64};
        for (int bits : allBits) {
            BeamSeats x = new BeamSeats();
            x.sheet(0, 16, 40);
            for (int i = 0; i < 40; i++) {
                x.write(0, i, i + 1);
            }
            x.sheet(0, bits, 40);
            for (int i = 0; i < 40; i++) {
                due("29: anew with " + bits + " bits, number " + i, x.write(0, i, 7), 0);
            }
            x.sheet(0, 0, 40);
            x.sheet(0, bits, 40);
            for (int i = 0; i < 40; i++) {
                due("29: missing between, number " + i, x.write(0, i, 7), 0);
            }
        }
    }

    /** Fewer, and then more again: none of the old numbers comes back. */
    private static void p29ManyAndFew() {
        BeamSeats x = new BeamSeats();
        x.sheet(3, 64, 40);
        for (int i = 0; i < 40; i++) {
            x.write(3, i, -1);
        }
        x.sheet(3, 64, 1);
        due("29: one", x.write(3, 0, 5), 0);
        due("29: no second", x.write(3, 1, 5), BEYOND);
        x.sheet(3, 64, 40);
        for (int i = 0; i < 40; i++) {
            due("29: number " + i, x.write(3, i, 5), 0);
        }
    }

    private static void refusedWrite(int s, int i, int finding) {
        String call = "30: write(" + s + ", " + i + ", 1)";
        refused(call, Boundary::busy, x -> x.write(s, i, 1), finding);
    }

    private static void p30NoSuchSheet() {
        for (int s : NO_SHEETS) {
            refusedWrite(s, 0, BEYOND);
            refusedWrite(s, -1, BEYOND);
        }
    }

    private static void p30Missing() {
        refusedWrite(2, 0, MISSING);
        refusedWrite(2, 39, MISSING);
    }

    /** "BEYOND: no such number": below 0, behind the last, of one without numbers, of one with 40. */
    private static void p30NumberIs0ToLast() {
        int[] beyond = {-1, 3, 40, MIN, MAX};
        for (int i : beyond) {
            refusedWrite(0, i, BEYOND);
        }
        BeamSeats x = after(Boundary::busy);
        due("30: the first", x.write(0, 0, 1), 5);
        due("30: the last", x.write(0, 2, 1), 99);
        refused("30: the first of none", y -> y.sheet(0, 8, 0), y -> y.write(0, 0, 1), BEYOND);
        refused("30: the 41st of 40", y -> y.sheet(0, 8, 40), y -> y.write(0, 40, 1), BEYOND);
        x = new BeamSeats();
        x.sheet(0, 8, 40);
        due("30: the 40th of 40", x.write(0, 39, 1), 0);
        due("30: it was written", x.write(0, 39, 2), 1);
        due("30: its neighbour was not", x.write(0, 38, 2), 0);
    }

    /** "BEYOND: no such sheet. MISSING. BEYOND: no such number.": in that order. */
    private static void p30Order() {
        int[] beyond = {-1, 40, MIN, MAX};
        for (int i : beyond) {
            refusedWrite(2, i, MISSING);
        }
    }

    private static void keeps(int bits, long[][] numbers) {
        BeamSeats x = new BeamSeats();
        x.sheet(0, bits, 1);
        for (long[] n : numbers) {
            x.write(0, 0, n[0]);
            due("30: what " + bits + " bits keep of " + n[0], x.write(0, 0, 77), n[1]);
        }
        due("30: no finding", x.status(-1), 0);
    }

    /** "(its lowest bits)": of 8, with a sign. */
    private static void p30Of8Bits() {
        keeps(8, new long[][] {{0, 0}, {1, 1}, {-1, -1}, {127, 127}, {128, -128}, {-128, -128}, {-129, 127}, {255, -1},
            {256, 0}, {257, 1}, {Long.MAX_VALUE, -1}, {Long.MIN_VALUE, 0}});
    }

    private static void p30Of16Bits() {
        keeps(16, new long[][] {{0, 0}, {-1, -1}, {127, 127}, {128, 128}, {256, 256}, {32767, 32767}, {32768, -32768},
            {-32768, -32768}, {-32769, 32767}, {65535, -1}, {65536, 0}, {65537, 1}, {Long.MAX_VALUE, -1}, {Long.MIN_VALUE, 0}});
    }

    private static void p30Of64Bits() {
        long[] numbers = {0, -1, 127, 128, 32768, 65536, 1L << 31, 1L << 32, -(1L << 31) - 1, Long.MAX_VALUE, Long.MIN_VALUE,
            -1000000001L, -1000000007L};
        for (long n : numbers) {
            keeps(64, new long[][] {{n, n}});
        }
    }

    private static void refusedCopy(int s, int from, int t, int to, int n, int finding) {
        String call = "31: copy(" + s + ", " + from + ", " + t + ", " + to + ", " + n + ")";
        refused(call, Boundary::busy, x -> x.copy(s, from, t, to, n), finding);
    }

    /** "BEYOND: no such sheet (either)" */
    private static void p31NoSuchSheet() {
        for (int s : NO_SHEETS) {
            refusedCopy(s, 0, 1, 0, 0, BEYOND);
            refusedCopy(0, 0, s, 0, 0, BEYOND);
            refusedCopy(s, 0, s, 0, 0, BEYOND);
        }
    }

    /** "MISSING: one is": the first, the other, both. */
    private static void p31Missing() {
        refusedCopy(2, 0, 1, 0, 0, MISSING);
        refusedCopy(0, 0, 2, 0, 0, MISSING);
        refusedCopy(2, 0, 2, 0, 0, MISSING);
    }

    /** "KIND: they are not of as many bits": also where none would be copied. */
    private static void p31Kind() {
        refusedCopy(0, 0, 3, 0, 1, KIND);
        refusedCopy(3, 0, 0, 0, 1, KIND);
        refusedCopy(0, 0, 3, 0, 0, KIND);
        int[] allBits = {8, 16, 64};
        for (int a : allBits) {
            for (int b : allBits) {
                BeamSeats x = new BeamSeats();
                x.sheet(0, a, 1);
                x.sheet(1, b, 1);
                due("31: from " + a + " bits to " + b, x.copy(0, 0, 1, 0, 1), a == b ? 1 : KIND);
            }
        }
    }

    /** "BEYOND: one has not so many": sheet 0 has 3, sheet 1 has 2; just so many, and 1 more, of each. */
    private static void p31NotSoMany() {
        int[][] good = {{0, 0, 2}, {1, 0, 2}, {2, 1, 1}, {2, 0, 1}, {3, 0, 0}, {0, 2, 0}, {3, 2, 0}};
        for (int[] g : good) {
            BeamSeats x = after(Boundary::busy);
            due("31: copy(0, " + g[0] + ", 1, " + g[1] + ", " + g[2] + ")", x.copy(0, g[0], 1, g[1], g[2]), g[2]);
        }
        int[][] beyond = {{2, 0, 2}, {0, 1, 2}, {0, 0, 3}, {3, 0, 1}, {0, 2, 1}, {4, 0, 0}, {0, 3, 0}, {MAX, 0, 0}, {0, MAX, 0},
            {0, 0, MAX}, {1, 0, MAX}, {0, 1, MAX}, {MAX, 0, 1}, {0, MAX, 1}, {MAX, MAX, MAX}, {2, 2, MAX - 1}};
        for (int[] b : beyond) {
            refusedCopy(0, b[0], 1, b[1], b[2], BEYOND);
        }
        refusedCopy(1, 0, 0, 0, 3, BEYOND);
        refusedCopy(0, 0, 0, 1, 3, BEYOND);
        refusedCopy(0, 1, 0, 0, 3, BEYOND);
    }

    /** "or from, to or n is below 0" */
    private static void p31Below0() {
        int[][] beyond = {{-1, 0, 1}, {0, -1, 1}, {0, 0, -1}, {-1, 0, 0}, {0, -1, 0}, {MIN, 0, 0}, {0, MIN, 0}, {0, 0, MIN},
            {2, 2, -1}, {-1, -1, -1}, {MIN, MIN, MIN}, {MIN, 0, MAX}, {0, MIN, MAX}, {MAX, 0, MIN}, {-1, 0, 2}};
        for (int[] b : beyond) {
            refusedCopy(0, b[0], 1, b[1], b[2], BEYOND);
            refusedCopy(0, b[0], 0, b[1], b[2], BEYOND);
        }
    }

    /** "BEYOND: no such sheet. MISSING. KIND. BEYOND": in that order. */
    private static void p31Order() {
        refusedCopy(4, 0, 2, 0, 0, BEYOND);
        refusedCopy(2, 0, 4, 0, 0, BEYOND);
        refusedCopy(2, -1, 1, 0, 0, MISSING);
        refusedCopy(0, 0, 2, 0, MAX, MISSING);
        refusedCopy(3, 0, 2, 0, 1, MISSING);
        refusedCopy(0, -1, 3, 0, 1, KIND);
        refusedCopy(0, 0, 3, 0, -1, KIND);
        refusedCopy(0, 0, 3, 5, MAX, KIND);
    }

    private static void emptySheets(BeamSeats x) {
        x.sheet(0, 64, 0);
        x.sheet(1, 64, 0);
    }

    /** None of none, all of 40, and onto itself. */
    private static void p31NoneAndAll() {
        looks("31: none of none", BoundarySheetsTest::emptySheets, x -> x.copy(0, 0, 1, 0, 0), 0);
        refused("31: one of none", BoundarySheetsTest::emptySheets, x -> x.copy(0, 0, 1, 0, 1), BEYOND);
        BeamSeats x = new BeamSeats();
        x.sheet(0, 16, 40);
        x.sheet(3, 16, 40);
        for (int i = 0; i < 40; i++) {
            x.write(0, i, 1000 + i);
        }
        due("31: all of 40", x.copy(0, 0, 3, 0, 40), 40);
        due("31: onto itself", x.copy(0, 0, 0, 0, 40), 40);
        for (int i = 0; i < 40; i++) {
            due("31: came, number " + i, x.write(3, i, 0), 1000 + i);
            due("31: stayed, number " + i, x.write(0, i, 0), 1000 + i);
        }
    }

    /** "(as they all were)": within one sheet, each shift in both directions. */
    private static void p31AsTheyAllWere() {
        for (int shift = 1; shift < 6; shift++) {
            BeamSeats x = new BeamSeats();
            x.sheet(0, 8, 6);
            x.sheet(1, 8, 6);
            for (int i = 0; i < 6; i++) {
                x.write(0, i, 10 + i);
                x.write(1, i, 10 + i);
            }
            x.copy(0, 0, 0, shift, 6 - shift);
            x.copy(1, shift, 1, 0, 6 - shift);
            for (int i = 0; i < 6; i++) {
                due("31: " + shift + " on, number " + i, x.write(0, i, 0), i < shift ? 10 + i : 10 + i - shift);
                due("31: " + shift + " back, number " + i, x.write(1, i, 0), i < 6 - shift ? 10 + i + shift : 10 + i);
            }
        }
    }

    private static void p32NoSuchSheetAndMissing() {
        for (int s : NO_SHEETS) {
            refused("32: lays(" + s + ")", Boundary::busy, x -> x.lays(s), BEYOND);
        }
        refused("32: lays(2)", Boundary::busy, x -> x.lays(2), MISSING);
        refused("32: lays(2), no thing there", Boundary::none, x -> x.lays(2), MISSING);
    }

    /** "(those that aren't 0 to 99 .. are left out)", with numbers of all bits. */
    private static void p32WetIs0To99() {
        int[] allBits = {8, 16, 64};
        for (int bits : allBits) {
            BeamSeats x = new BeamSeats();
            x.sheet(0, bits, 8);
            long[] numbers = {-1, 0, 99, 100, 127, -128, 1, 98};
            int[] wets = {50, 0, 99, 50, 50, 50, 1, 98};
            for (int i = 0; i < 8; i++) {
                x.thing(THING, 1);
                x.write(0, i, numbers[i]);
            }
            due("32: of " + bits + " bits, so many came", x.lays(0), 4);
            for (int i = 0; i < 8; i++) {
                due("32: WET of " + i, x.of(i, WET), wets[i]);
                due("32: the number stays", x.write(0, i, 0), numbers[i]);
            }
        }
        BeamSeats x = new BeamSeats();
        x.sheet(0, 64, 4);
        long[] numbers = {1L << 32, (1L << 32) + 99, Long.MIN_VALUE, Long.MAX_VALUE};
        for (int i = 0; i < 4; i++) {
            x.thing(THING, 1);
            x.write(0, i, numbers[i]);
        }
        due("32: large numbers are left out", x.lays(0), 0);
        due("32: WET of all", x.count(2), 200);
    }

    /** "(those that .. stand for none, are left out)": more numbers than things, fewer, just as many. */
    private static void p32StandForNone() {
        int[][] manies = {{0, 40, 0}, {1, 40, 1}, {8, 40, 8}, {8, 8, 8}, {7, 8, 7}, {8, 7, 7}, {8, 1, 1}, {8, 0, 0}};
        for (int[] m : manies) {
            BeamSeats x = new BeamSeats();
            for (int i = 0; i < m[0]; i++) {
                x.thing(THING, 1);
            }
            x.sheet(3, 8, m[1]);
            for (int i = 0; i < m[1]; i++) {
                x.write(3, i, 60);
            }
            due("32: " + m[1] + " numbers for " + m[0] + " things", x.lays(3), m[2]);
            due("32: WET of all", x.count(2), 60 * m[2] + 50 * (m[0] - m[2]));
        }
    }

    private static void p32Empty() {
        looks("32: no numbers", x -> busyWithout(x), x -> x.lays(0), 0);
        looks("32: no things", Boundary::none, x -> x.lays(0), 0);
    }

    private static void busyWithout(BeamSeats x) {
        busy(x);
        x.sheet(0, 8, 0);
    }

    private static void p33NoSuchSheet() {
        for (int s : NO_SHEETS) {
            refused("33: book(" + s + ", 0)", Boundary::busy, x -> x.book(s, 0), BEYOND);
            refused("33: book(" + s + ", 8)", Boundary::busy, x -> x.book(s, 8), BEYOND);
        }
    }

    /** "BEYOND: no such sheet. MISSING. BEYOND: thing.": in that order. */
    private static void p33Missing() {
        int[] things = {0, 7, 8, -1, MIN, MAX};
        for (int i : things) {
            refused("33: book(2, " + i + ")", Boundary::busy, x -> x.book(2, i), MISSING);
        }
    }

    private static void p33Thing() {
        noSuchThing("33: book(0, ..)", (x, i) -> x.book(0, i));
        noSuchThing("33: book(3, ..)", (x, i) -> x.book(3, i));
        refused("33: a sheet without numbers, no such one", x -> busyWithout(x), x -> x.book(0, 8), BEYOND);
    }

    private static void riderTo30(BeamSeats x) {
        x.thing(RIDER, 2);
        x.beam(SPEED, 1);
    }

    /** "as many as it has numbers: how many": 0, 1, 2 and 40; the first is where it is now. */
    private static void p33AsManyAsItHas() {
        looks("33: none", x -> busyWithout(x), x -> x.book(0, 0), 0);
        int[] sizes = {1, 2, 39, 40};
        int[] allBits = {8, 16, 64};
        for (int n : sizes) {
            for (int bits : allBits) {
                BeamSeats x = new BeamSeats();
                riderTo30(x);
                x.sheet(0, bits, n);
                x.sheet(1, bits, n);
                due("33: so many", x.book(0, 0), n);
                for (int i = 0; i < n; i++) {
                    due("33: in " + i + " of " + n, x.write(0, i, 0), Math.min(30, Math.max(2, i)));
                    due("33: another sheet", x.write(1, i, 0), 0);
                }
                due("33: SECOND", x.now(0), 0);
                due("33: BEAM", x.now(1), 0);
                due("33: the rider", x.of(0, AT), 2);
            }
        }
    }

    /** A wash that comes on at 58 and rides over 0. */
    private static void p33OverTheRing() {
        BeamSeats x = new BeamSeats();
        x.thing(WASH, 58);
        x.beam(BEAM, 56);
        x.beam(SPEED, 1);
        x.sheet(0, 8, 6);
        due("33: six", x.book(0, 0), 6);
        int[] bearings = {58, 58, 58, 59, 0, 1};
        for (int i = 0; i < 6; i++) {
            due("33: over the ring, in " + i, x.write(0, i, 0), bearings[i]);
        }
    }

    private static void p34NoSuchSheet() {
        for (int s : NO_SHEETS) {
            refused("34: read(" + s + ", 0)", Boundary::busy, x -> x.read(s, 0), BEYOND);
            refused("34: read(" + s + ", 8)", Boundary::busy, x -> x.read(s, 8), BEYOND);
        }
    }

    /** "BEYOND: no such sheet. MISSING. BEYOND: thing.": in that order. */
    private static void p34Missing() {
        int[] things = {0, 7, 8, -1, MIN, MAX};
        for (int i : things) {
            refused("34: read(2, " + i + ")", Boundary::busy, x -> x.read(2, i), MISSING);
        }
    }

    private static void p34Thing() {
        noSuchThing("34: read(0, ..)", (x, i) -> x.read(0, i));
        noSuchThing("34: read(3, ..)", (x, i) -> x.read(3, i));
        refused("34: a sheet without numbers, no such one", x -> busyWithout(x), x -> x.read(0, 8), BEYOND);
    }

    /** No numbers: all 6 KINDS and all SPEEDS (1 to 10) make it so. */
    private static void p34NoNumbers() {
        looks("34: none", x -> busyWithout(x), x -> x.read(0, 0), 60);
        looks("34: none, the last", x -> busyWithout(x), x -> x.read(0, 7), 60);
    }

    private static void booked(BeamSeats x, int n) {
        x.thing(THING, 2);
        x.beam(SPEED, 1);
        x.beam(BEAM, 1);
        x.lay(0);
        x.sheet(0, 8, n);
        x.book(0, 0);
    }

    /**
     * "just so": a thing rides from 1 with SPEED 1, so number i is 1 + i. By the second number only SPEED 1 is left, but
     * for a thief, which is alone and goes off at 2 with each SPEED; the third shows that it stays there. Wash and
     * sheet are dry in 13 seconds, off at 15 in the next, and a second later the 16th number shows it; so does the
     * 31st that a rider went off at 30, and the 39th that a guest went off at 38.
     */
    private static void p34JustSo() {
        int[][] pairs = {{1, 60}, {2, 5 + 10}, {3, 5}, {15, 5}, {16, 3}, {30, 3}, {31, 2}, {38, 2}, {39, 1}, {40, 1}};
        for (int[] p : pairs) {
            BeamSeats x = new BeamSeats();
            booked(x, p[0]);
            due("34: pairs by " + p[0] + " numbers", x.read(0, 0), p[1]);
            x.write(0, p[0] - 1, 59);
            due("34: the last of " + p[0] + " is another", x.read(0, 0), 0);
            looks("34: read(0, 0) of " + p[0], y -> booked(y, p[0]), y -> y.read(0, 0), p[1]);
        }
    }

    /** A number is the whole of it: a bearing in its lowest bits is none. */
    private static void p34Of64Bits() {
        long[] others = {1L << 32, 1L << 8, 1L << 16, 1L << 63};
        for (long other : others) {
            BeamSeats x = new BeamSeats();
            x.thing(THING, 2);
            x.sheet(0, 64, 1);
            x.write(0, 0, 2);
            due("34: the bearing", x.read(0, 0), 60);
            x.write(0, 0, other + 2);
            due("34: more than the bearing", x.read(0, 0), 0);
            x.write(0, 0, -1);
            due("34: below 0", x.read(0, 0), 0);
        }
    }
}
