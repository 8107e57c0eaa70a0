/** The boundaries that promises 26 to 28 and the Terms of THE TEXT name: the tape, tokens, items, the fault. */
public final class BoundaryTextTest extends Boundary {
    public static void main(String[] args) {
        p26NIs1To4();
        p26TheLowestBytes();
        p26AtMost120();
        p26BeyondBeforeFull();
        p26FullFeedsNothing();
        p27EmptyAndFull();
        p28EmptyText();
        p28FullText();
        p28ManyItems();
        p28EveryByteAlone();
        p28EveryByteBehindANumber();
        p28EveryByteBehindAWord();
        p28EveryByteBeforeAWord();
        p28Words();
        p28Numbers();
        p28NumbersAreLong();
        p28BearingIs0To59();
        p28OutIs0To9();
        p28WetIs0To99();
        p28GoalIs0To59();
        p28BeamSpeedThick();
        p28PartsInTheirOrder();
        p28Signs();
        p28EndsTooEarly();
        p28Blanks();
        p28TheNinth();
        p28TheFirstFault();
        p28FaultChangesNothing();
        p28OnAndLostStay();
        end();
    }

    private static BeamSeats told(String text) {
        BeamSeats x = new BeamSeats();
        tape(x, text);
        return x;
    }

    /** As many items, no finding, and an empty tape. */
    private static void items(String text, int want) {
        BeamSeats x = told(text);
        due("28: '" + text + "'", x.island(), want);
        due("28: '" + text + "', the tape", x.count(1), 0);
        due("28: '" + text + "', status(-1)", x.status(-1), 0);
    }

    /** -1 less the place, no finding, an empty tape, and an island as it was. */
    private static void fault(String text, int place) {
        BeamSeats x = told(text);
        due("28: '" + text + "'", x.island(), -1 - place);
        alike("28: '" + text + "'", x, new BeamSeats());
    }

    private static void refusedFeed(int bytes, int n) {
        refused("26: feed(" + bytes + ", " + n + ")", Boundary::busy, x -> x.feed(bytes, n), BEYOND);
    }

    /** "(n 1 to 4)", "BEYOND: n." */
    private static void p26NIs1To4() {
        int[] beyond = {0, -1, 5, MIN, MAX};
        for (int n : beyond) {
            refusedFeed(0x62656162, n);
            refusedFeed(0, n);
        }
        BeamSeats x = new BeamSeats();
        int had = 0;
        for (int n = 1; n <= 4; n++) {
            had += n;
            due("26: feed(.., " + n + ")", x.feed(-1, n), had);
            due("26: so many bytes", x.count(1), had);
        }
    }

    /** "the n lowest bytes of a number behind it, the highest of these first": any number will do, below 0 too. */
    private static void p26TheLowestBytes() {
        BeamSeats x = new BeamSeats();
        x.feed(0x6265616d, 4);
        x.feed(0xffffff20, 1);
        x.feed(0x80003539, 2);
        due("26: 'beam 59'", x.island(), 1);
        due("26: BEAM", x.now(1), 59);
        x.feed(0xff626561, 3);
        x.feed(0x7fff6d37, 2);
        due("26: 'beam7'", x.island(), 1);
        due("26: BEAM", x.now(1), 7);
        x.feed(0x6265616d, 4);
        x.feed(MIN, 1);
        due("26: a byte of 0 in place 4 begins no token", x.island(), -1 - 4);
        x.feed(MIN, 4);
        due("26: the highest byte, 128, begins no token", x.island(), -1);
    }

    /** "THE TAPE (bytes, at most 120)": 120 just fit, by ones and by fours; 121 don't. */
    private static void p26AtMost120() {
        for (int n = 1; n <= 4; n++) {
            BeamSeats x = new BeamSeats();
            for (int k = 1; k <= 120 / n; k++) {
                due("26: feed(.., " + n + "), call " + k, x.feed(0x20202020, n), n * k);
            }
            due("26: the tape is full", x.count(1), 120);
            for (int more = 1; more <= 4; more++) {
                due("26: full, and " + more, x.feed(0, more), FULL);
            }
            due("26: four findings of FULL", x.status(1), 4);
            due("26: 120 blanks", x.island(), -1 - 120);
        }
    }

    private static void bytes(BeamSeats x, int many) {
        for (int k = 0; k < many; k++) {
            x.feed(0x20, 1);
        }
    }

    /** The last that fits, and one more, from 116 to 120 bytes. */
    private static void p26FullFeedsNothing() {
        for (int had = 116; had <= 120; had++) {
            for (int n = 1; n <= 4; n++) {
                int many = had;
                int more = n;
                String call = "26: " + had + " bytes and " + n + " more";
                if (had + n <= 120) {
                    BeamSeats x = new BeamSeats();
                    bytes(x, had);
                    due(call, x.feed(0x20202020, n), had + n);
                    due(call + ": count(1)", x.count(1), had + n);
                } else {
                    refused(call, x -> bytes(x, many), x -> x.feed(0x3b3b3b3b, more), FULL);
                }
            }
        }
    }

    /** "BEYOND: n. FULL.": in that order. */
    private static void p26BeyondBeforeFull() {
        int[] beyond = {0, -1, 5, MIN, MAX};
        for (int n : beyond) {
            refused("26: full, and feed(0, " + n + ")", x -> bytes(x, 120), x -> x.feed(0, n), BEYOND);
        }
    }

    /** "THE TAPE is empty: how many it had." */
    private static void p27EmptyAndFull() {
        int[] sizes = {0, 1, 4, 119, 120};
        for (int size : sizes) {
            BeamSeats x = new BeamSeats();
            bytes(x, size);
            due("27: wipe() of " + size, x.wipe(), size);
            due("27: then count(1)", x.count(1), 0);
            due("27: and again", x.wipe(), 0);
            due("27: there is room", x.feed(0x20, 1), 1);
            due("27: no finding", x.status(-1), 0);
        }
        BeamSeats x = after(Boundary::busy);
        BeamSeats twin = new BeamSeats();
        busy(twin);
        due("27: wipe() of busy", x.wipe(), 7);
        due("27: island() of its twin", twin.island(), 1);
        due("27: nothing came of the bytes", x.now(3), 20);
        due("27: they would have", twin.now(3), 9);
    }

    private static void p28EmptyText() {
        fault("", 0);
        fault(" ", 1);
        fault("  ", 2);
        fault(" ".repeat(120), 120);
    }

    /** 120 bytes: an item that ends with the last of them, one that would need one more, a fault in the last. */
    private static void p28FullText() {
        items("beam" + " ".repeat(115) + "7", 1);
        items("beam 7" + " ".repeat(114), 1);
        items(" ".repeat(114) + "beam 7", 1);
        fault(" ".repeat(116) + "beam", 120);
        fault(" ".repeat(115) + "beam;", 119);
        fault("beam 7;" + " ".repeat(113), 120);
        fault("beam 7;" + " ".repeat(112) + "x", 119);
        fault(";".repeat(120), 0);
        fault("a".repeat(120), 0);
        fault("9".repeat(120), 0);
        fault("a1".repeat(60), 0);
        fault("1a".repeat(60), 0);
        fault("beam " + "0".repeat(112) + "060", 5);
        items("beam " + "0".repeat(112) + "059", 1);
    }

    /** "ITEM { ; ITEM }": 1 to 20, as many as a tape holds. */
    private static void p28ManyItems() {
        for (int many = 1; many <= 20; many++) {
            items("beam5;".repeat(many - 1) + "beam5", many);
            fault("beam5;".repeat(many - 1) + "beam6;", 6 * many);
        }
    }

    /** Each byte as the only one: only a blank is none of a token, and nothing can stand alone. */
    private static void p28EveryByteAlone() {
        for (int b = 0; b < 256; b++) {
            BeamSeats x = told(String.valueOf((char) b));
            due("28: byte " + b + " alone", x.island(), b == ' ' ? -2 : -1);
        }
    }

    /** "WORDS (letters a to z), NUMBERS (digits ..), SIGN ;": each byte behind 'beam 5'. */
    private static void p28EveryByteBehindANumber() {
        for (int b = 0; b < 256; b++) {
            BeamSeats x = told("beam 5" + (char) b);
            boolean digit = b >= '0' && b <= '9';
            int want = digit || b == ' ' ? 1 : b == ';' ? -1 - 7 : -1 - 6;
            due("28: 'beam 5' and byte " + b, x.island(), want);
            due("28: then BEAM", x.now(1), digit ? 50 + b - '0' : b == ' ' ? 5 : 0);
        }
    }

    /** Each byte between 'beam' and '5': a letter makes another word, a digit another number. */
    private static void p28EveryByteBehindAWord() {
        for (int b = 0; b < 256; b++) {
            BeamSeats x = told("beam" + (char) b + "5");
            boolean letter = b >= 'a' && b <= 'z';
            boolean fits = b == ' ' || b >= '0' && b <= '5';
            due("28: 'beam', byte " + b + ", '5'", x.island(), fits ? 1 : letter ? -1 : -1 - 4);
            due("28: then BEAM", x.now(1), b == ' ' ? 5 : fits ? 10 * (b - '0') + 5 : 0);
        }
    }

    /** Each byte before 'eam 5', and before 'beam 5'. */
    private static void p28EveryByteBeforeAWord() {
        for (int b = 0; b < 256; b++) {
            due("28: byte " + b + ", 'eam 5'", told((char) b + "eam 5").island(), b == 'b' ? 1 : b == ' ' ? -2 : -1);
            due("28: byte " + b + ", 'beam 5'", told((char) b + "beam 5").island(), b == ' ' ? 1 : -1);
        }
    }

    /** The nine words that may begin an item, one letter less or more or another; and those that may not begin one. */
    private static void p28Words() {
        String[] words = {"thing", "wash", "rider", "guest", "sheet", "thief", "beam", "speed", "thick"};
        for (String word : words) {
            items(word + " 5", 1);
            fault(word.substring(1) + " 5", 0);
            fault(word.substring(0, word.length() - 1) + " 5", 0);
            fault(word + "s 5", 0);
            fault("a" + word + " 5", 0);
            fault(word.substring(0, word.length() - 1) + "z 5", 0);
            fault(word.toUpperCase() + " 5", 0);
            fault(word.substring(0, 1) + " " + word.substring(1) + " 5", 0);
            fault("beam 5;" + word + "s 5", 7);
        }
        String[] others = {"out", "wet", "goal"};
        for (String word : others) {
            fault(word + " 5", 0);
            fault("thing 5;" + word + " 5", 8);
        }
        String[] kinds = {"thing", "wash", "rider", "guest", "sheet", "thief"};
        for (int kind = 0; kind < 6; kind++) {
            BeamSeats x = told(kinds[kind] + " 5");
            x.island();
            due("28: the kind of " + kinds[kind], x.of(0, 0), kind);
        }
    }

    /** "NUMBERS (digits, 999 at most)": zeros before are digits too; 1000 and more may not be. */
    private static void p28Numbers() {
        String[] good = {"0", "00", "000", "0000", "59", "059", "0059", "00000000059"};
        for (String number : good) {
            items("beam " + number, 1);
        }
        String[] bad = {"60", "99", "100", "999", "0999", "1000", "1059", "9999", "10000", "00001000"};
        for (String number : bad) {
            fault("beam " + number, 5);
        }
        String[] above99 = {"100", "0100", "999", "1000", "1050", "10000"};
        for (String number : above99) {
            fault("thing 5 out 1 wet " + number, 18);
        }
    }

    /** Numbers whose lowest 8, 16, 32 or 64 bits would be small again. */
    private static void p28NumbersAreLong() {
        String[] numbers = {"256", "261", "65536", "65541", "2147483647", "2147483648", "4294967296", "4294967301",
            "9223372036854775808", "18446744073709551616", "18446744073709551621", "340282366920938463463374607431768211461"};
        for (String number : numbers) {
            fault("beam " + number, 5);
            fault("thing " + number, 6);
            fault("beam 5;speed " + number + ";x", 13);
        }
    }

    /** A number that may be, and its neighbour that may not: at the place of its first digit. */
    private static void range(String before, String behind, int least, int most) {
        items(before + least + behind, 1);
        items(before + most + behind, 1);
        fault(before + (most + 1) + behind, before.length());
        fault(before + "0" + (most + 1) + behind, before.length());
        fault(before + "-1" + behind, before.length());
        if (least > 0) {
            fault(before + (least - 1) + behind, before.length());
        }
    }

    /** "the name of a KIND .., a NUMBER (the bearing, 0 to 59)" */
    private static void p28BearingIs0To59() {
        String[] kinds = {"thing ", "wash ", "rider ", "guest ", "sheet ", "thief "};
        for (String kind : kinds) {
            range(kind, "", 0, 59);
            range(kind, " out 1", 0, 59);
        }
        BeamSeats x = told("wash 0;wash 59");
        x.island();
        due("28: at 0", x.of(0, AT), 0);
        due("28: at 59", x.of(1, AT), 59);
    }

    /** A part's least and most number come to the thing, and what it is at first if it isn't told. */
    private static void part(String word, int most, int what, int first) {
        BeamSeats x = told("wash 5 " + word + " 0;wash 5 " + word + " " + most + ";wash 5");
        due("28: three with " + word, x.island(), 3);
        due("28: " + word + " 0", x.of(0, what), 0);
        due("28: " + word + " " + most, x.of(1, what), most);
        due("28: no " + word, x.of(2, what), first);
    }

    /** "perhaps out and a NUMBER (0 to 9)" */
    private static void p28OutIs0To9() {
        range("wash 5 out ", "", 0, 9);
        range("wash 5 out ", " wet 1 goal 2", 0, 9);
        part("out", 9, OUT, 3);
    }

    /** "perhaps wet and a NUMBER (0 to 99)" */
    private static void p28WetIs0To99() {
        range("wash 5 wet ", "", 0, 99);
        range("wash 5 out 1 wet ", " goal 2", 0, 99);
        part("wet", 99, WET, 50);
    }

    /** "perhaps goal and a NUMBER (0 to 59)" */
    private static void p28GoalIs0To59() {
        range("wash 5 goal ", "", 0, 59);
        range("wash 5 out 1 wet 2 goal ", "", 0, 59);
        part("goal", 59, GOAL, 30);
    }

    /** "beam and a NUMBER (0 to 59); speed and a NUMBER (1 to 10); thick and a NUMBER (1 to 40)" */
    private static void p28BeamSpeedThick() {
        range("beam ", "", 0, 59);
        range("speed ", "", 1, 10);
        range("thick ", "", 1, 40);
        int[][] ends = {{0, 1, 1}, {59, 10, 40}};
        for (int[] e : ends) {
            BeamSeats x = told("beam " + e[0] + ";speed " + e[1] + ";thick " + e[2]);
            due("28: three items", x.island(), 3);
            due("28: BEAM", x.now(1), e[0]);
            due("28: SPEED", x.now(2), e[1]);
            due("28: THICK", x.now(3), e[2]);
        }
    }

    /** "perhaps out .., perhaps wet .., perhaps goal ..": each may be left out, none may come again or out of order. */
    private static void p28PartsInTheirOrder() {
        String[] parts = {" out 1", " wet 2", " goal 4"};
        int[][] told = {{OUT, 1, 3}, {WET, 2, 50}, {GOAL, 4, 30}};
        for (int set = 0; set < 8; set++) {
            String text = "wash 5";
            for (int k = 0; k < 3; k++) {
                text += (set >> k & 1) == 1 ? parts[k] : "";
            }
            items(text, 1);
            BeamSeats x = told(text);
            x.island();
            for (int k = 0; k < 3; k++) {
                due("28: '" + text + "', of(0, " + told[k][0] + ")", x.of(0, told[k][0]), told[k][2 - (set >> k & 1)]);
            }
            for (int k = 0; k < 3; k++) {
                if (set >> k != 0) {
                    fault(text + parts[k], text.length() + 1);
                }
            }
        }
        fault("beam 5 out 1", 7);
        fault("speed 5 wet 1", 8);
        fault("thick 5 goal 1", 8);
    }

    /** Only ; joins items; one before, behind or twice is a fault at what stands there instead of an item. */
    private static void p28Signs() {
        fault(";", 0);
        fault(";beam 5", 0);
        fault("beam 5;", 7);
        fault("beam 5;;beam 6", 7);
        fault("beam 5 ; ;beam 6", 9);
        fault("beam 5 beam 6", 7);
        fault("beam 5 6", 7);
        fault("wash 5 6", 7);
        fault("wash 5 wash 6", 7);
        fault("wash;5", 4);
        fault("wash 5 out;1", 10);
        fault("beam 5,beam 6", 6);
        fault("beam 5:beam 6", 6);
        fault("beam 5<beam 6", 6);
        items("beam 5;beam 6", 2);
    }

    /** "or how many bytes there are if it ends too early": behind each token of the longest item, with blanks too. */
    private static void p28EndsTooEarly() {
        String[] early = {"wash", "wash 5 out", "wash 5 out 1 wet", "wash 5 out 1 wet 2 goal", "wash 5;", "beam", "speed",
            "thick", "beam 5;beam", "beam 5;"};
        for (String text : early) {
            fault(text, text.length());
            fault(text + "  ", text.length() + 2);
            fault("  " + text, text.length() + 2);
        }
    }

    /** "blanks may stand between": none, one or many; a blank within a token makes two of it. */
    private static void p28Blanks() {
        items("wash5out1wet2goal3;beam4", 2);
        items("  wash  5  out  1  wet  2  goal  3  ;  beam  4  ", 2);
        fault("wa sh 5", 0);
        fault("beam 5 9", 7);
        fault("wash 5 o ut 1", 7);
        fault("beam\t5", 4);
        fault("beam\n5", 4);
        fault("beam 5\n", 6);
        fault("beam 5" + (char) 160, 6);
        fault("beam 5" + (char) 0, 6);
    }

    private static void things(BeamSeats x, int many) {
        for (int i = 0; i < many; i++) {
            x.thing(THING, 5);
        }
    }

    /** "the name of a KIND for a 9th: its own": at its own place, whatever stands behind it; the 8th may be. */
    private static void p28TheNinth() {
        String[] kinds = {"thing", "wash", "rider", "guest", "sheet", "thief"};
        for (String kind : kinds) {
            BeamSeats x = new BeamSeats();
            things(x, 7);
            tape(x, kind + " 5");
            due("28: the eighth, " + kind, x.island(), 1);
            due("28: eight there are", x.count(0), 8);
            tape(x, kind + " 5");
            due("28: the ninth, " + kind, x.island(), -1);
            tape(x, "beam 5; " + kind);
            due("28: the ninth behind an item, and no more", x.island(), -1 - 8);
            tape(x, kind + " 60");
            due("28: the ninth at no bearing", x.island(), -1);
            due("28: eight there are still", x.count(0), 8);
            due("28: BEAM is as it was", x.now(1), 0);
            due("28: no finding", x.status(-1), 0);
        }
        fault("wash1;wash2;wash3;wash4;wash5;wash6;wash7;wash8;wash9", 48);
        items("wash1;wash2;wash3;wash4;wash5;wash6;wash7;wash8", 8);
        items("wash1;wash2;wash3;wash4;wash5;wash6;wash7;wash8;beam 9;thick 1", 10);
        BeamSeats x = new BeamSeats();
        things(x, 6);
        tape(x, "wash 1;wash 2;wash 3");
        due("28: six and three", x.island(), -1 - 14);
        due("28: six there are", x.count(0), 6);
        tape(x, "wash 1;wash 2");
        due("28: six and two", x.island(), 2);
        due("28: eight there are", x.count(0), 8);
    }

    /** "the first TOKEN that can't stand there": what is wrong behind it isn't told. */
    private static void p28TheFirstFault() {
        fault("beam 60;#", 5);
        fault("bean #", 0);
        fault("beam # 60", 5);
        fault("wash 5 out 10 wet 100 goal 60", 11);
        fault("wash 5 wet 100 goal 60", 11);
        fault("wash 5 out 9 wet 99 goal 60", 25);
        fault("beam 5;speed 0;thick 0", 13);
        fault("beam beam", 5);
        fault("5 beam", 0);
        fault("#", 0);
        fault("beam 5 #", 7);
        fault("  #", 2);
    }

    /** "(nothing changes but that THE TAPE is empty; no finding)": items before the fault don't come either. */
    private static void p28FaultChangesNothing() {
        String[] behind = {";beam 60", ";speed 5;", ";beam 7 x", "0", ";thing 5"};
        for (String text : behind) {
            BeamSeats x = after(Boundary::busy);
            BeamSeats twin = after(Boundary::busy);
            tape(x, text);
            due("28: 'thick 9" + text + "' is at fault", x.island() < 0 ? 1 : 0, 1);
            twin.wipe();
            alike("28: 'thick 9" + text + "'", x, twin);
        }
    }

    /** "whose ITEMS come to what there is": those ON or LOST stay so, a new one is neither. */
    private static void p28OnAndLostStay() {
        BeamSeats x = new BeamSeats();
        things(x, 2);
        x.beam(BEAM, 57);
        x.lay(0);
        x.seconds(1);
        x.beam(BEAM, 20);
        x.lay(1);
        tape(x, "beam 58;thick 1;rider 20");
        due("28: three items", x.island(), 3);
        due("28: ON", x.now(4), 2);
        due("28: LOST", x.now(5), 1);
        due("28: AT what it was", x.of(1, AT), 20);
        due("28: SECOND", x.now(0), 1);
        due("28: a new one's TIMES", x.of(2, TIMES), 0);
    }
}
