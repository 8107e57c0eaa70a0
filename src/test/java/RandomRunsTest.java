import java.util.ArrayList;
import java.util.List;
import java.util.Random;
import java.util.regex.Matcher;
import java.util.regex.Pattern;

/** Runs of random calls, ordinary and wild, against a second model that is written straight from the document. */
public final class RandomRunsTest {
    private static final int BEYOND = -1000000001;
    private static final int FULL = -1000000002;
    private static final int KIND = -1000000003;
    private static final int NONE = -1000000004;
    private static final int STATE = -1000000005;
    private static final int MISSING = -1000000006;
    private static final int SIZE = -1000000007;

    private static final int RUNS = 1500;
    /** Of the 512 calls that an object is used for, what is left to look at its state in the end. */
    private static final int CALLS = 512 - 7 - 8 * 10;
    private static final int[] WILD = {Integer.MIN_VALUE, Integer.MIN_VALUE + 1, -1000000001, -2, -1, 0, 1, 5, 6, 7, 8, 9,
        10, 11, 31, 32, 40, 41, 58, 59, 60, 99, 100, 120, 121, 200, 201, 400, 401, 9999, 10000, Integer.MAX_VALUE};
    private static final String[] NAMES = {"thing", "wash", "rider", "guest", "sheet", "thief"};
    private static final String[] SCRAPS = {"thing", "wash", "rider", "guest", "sheet", "thief", "beam", "speed", "thick",
        "out", "wet", "goal", ";", ";", " ", "  ", "0", "1", "7", "10", "58", "59", "60", "007", "1000", "x", "#", "W"};

    private final Random random;
    private final BeamSeats x = new BeamSeats();
    private final Model m = new Model();
    private final List<String> told = new ArrayList<>();
    private String waiting = "";

    private RandomRunsTest(long seed) {
        random = new Random(seed);
    }

    public static void main(String[] args) {
        int wrong = 0;
        for (int run = 0; run < RUNS && wrong < 3; run++) {
            RandomRunsTest test = new RandomRunsTest(run);
            if (!test.goesWell()) {
                wrong++;
                System.out.println("run " + run + " after " + test.told.size() + " calls:");
                int from = Math.max(0, test.told.size() - 60);
                test.told.subList(from, test.told.size()).forEach(System.out::println);
            }
        }
        System.out.println(wrong == 0 ? RUNS + " random runs are as the model tells" : wrong + " random runs went wrong");
        if (wrong != 0) {
            System.exit(1);
        }
    }

    private boolean goesWell() {
        int[] a = new int[5];
        boolean dense = random.nextBoolean();
        for (int call = 0; call < CALLS; call++) {
            int which = waiting.isEmpty() ? pick(dense, call) : 24;
            arguments(which, a);
            String name = which + " (" + a[0] + ", " + a[1] + ", " + a[2] + ", " + a[3] + ", " + a[4] + ")";
            long wide = random.nextInt(4) == 0 ? random.nextLong() : a[2];
            long want = m.answer(which, a, wide);
            long got;
            try {
                got = call(which, a, wide);
            } catch (RuntimeException e) {
                told.add(name + " threw " + e);
                return false;
            }
            told.add(name + " answered " + got + ", due is " + want);
            if (got != want) {
                return false;
            }
        }
        return sameState();
    }

    /** Which call comes next: most runs begin with things, and the dear ones are rare. */
    private int pick(boolean dense, int call) {
        if (call < 12 && random.nextInt(3) > 0) {
            return random.nextBoolean() ? 3 : 5;
        }
        int which = random.nextInt(38);
        if ((which == 23 || which == 32) && random.nextInt(3) > 0) {
            return 9;
        }
        if ((which == 34 || which == 35) && dense) {
            return 11;
        }
        return which == 24 || which == 25 ? textOrWipe(which) : which;
    }

    private int textOrWipe(int which) {
        if (random.nextInt(3) == 0) {
            return which;
        }
        waiting = text();
        return 24;
    }

    private String text() {
        StringBuilder b = new StringBuilder();
        int items = 1 + random.nextInt(4);
        for (int k = 0; k < items; k++) {
            b.append(k == 0 ? "" : random.nextBoolean() ? ";" : " ; ").append(item());
        }
        if (random.nextInt(3) == 0) {
            b.insert(random.nextInt(b.length() + 1), SCRAPS[random.nextInt(SCRAPS.length)]);
        }
        if (random.nextInt(6) == 0) {
            b.setLength(random.nextInt(b.length() + 1));
        }
        return b.length() == 0 ? " " : b.toString();
    }

    private String item() {
        switch (random.nextInt(6)) {
            case 0:
                return "beam " + random.nextInt(61);
            case 1:
                return "speed " + random.nextInt(12);
            case 2:
                return "thick" + random.nextInt(42);
            default:
                return NAMES[random.nextInt(6)] + " " + random.nextInt(60)
                        + (random.nextBoolean() ? " out " + random.nextInt(10) : "")
                        + (random.nextBoolean() ? " wet" + random.nextInt(101) : "")
                        + (random.nextBoolean() ? " goal " + random.nextInt(60) : "");
        }
    }

    private int[] tops(int which) {
        int things = Math.max(1, m.now.things.size());
        int[][] tops = {{3, 60}, {7}, {10, 2}, {6, 60}, {things, 10}, {things, 8, 100}, {things, 60}, {things, 6},
            {things, 6}, {things}, {things}, {30}, {things, 401, 5}, {401, 2}, {things}, {things}, {things}, {things},
            {things, 121}, {things, 121}, {things, 121}, {121, 4}, {121}, {things}, {0, 5}, {}, {}, {4, 65, 41},
            {4, 12, 120}, {4, 6, 4, 6, 6}, {4}, {4, things}, {4, things}, {}, {}, {}, {4}, {8}};
        return tops[which];
    }

    private void arguments(int which, int[] a) {
        int[] tops = tops(which);
        for (int k = 0; k < a.length; k++) {
            a[k] = 0;
            if (k < tops.length) {
                a[k] = random.nextInt(40) == 0 ? WILD[random.nextInt(WILD.length)] : random.nextInt(Math.max(1, tops[k]));
            }
        }
        if (which == 0 && a[0] == 1 && random.nextInt(8) > 0) {
            a[1] = 1 + random.nextInt(10);
        }
        if (which == 0 && a[0] == 2 && random.nextInt(8) > 0) {
            a[1] = 1 + random.nextInt(40);
        }
        if (which == 5 && random.nextInt(8) > 0) {
            a[1] = new int[] {2, 4, 5, 7}[random.nextInt(4)];
            a[2] = random.nextInt(a[1] == 2 ? 10 : 60);
        }
        if (which == 27 && random.nextInt(8) > 0) {
            a[1] = new int[] {8, 8, 16, 64, 64, 0}[random.nextInt(6)];
        }
        if (which == 37) {
            a[0]--;
        }
        if (which == 24 && !waiting.isEmpty()) {
            takeBytes(a);
        }
    }

    private void takeBytes(int[] a) {
        a[1] = 1 + random.nextInt(Math.min(4, waiting.length()));
        a[0] = random.nextInt();
        for (int k = 0; k < a[1]; k++) {
            a[0] = a[0] << 8 | waiting.charAt(k);
        }
        waiting = waiting.substring(a[1]);
    }

    private boolean sameState() {
        for (int what = 0; what < 7; what++) {
            if (x.now(what) != m.now(what)) {
                told.add("now(" + what + ") is another");
                return false;
            }
        }
        for (int i = 0; i < m.now.things.size(); i++) {
            for (int what = 0; what < 10; what++) {
                if (x.of(i, what) != m.of(i, what)) {
                    told.add("of(" + i + ", " + what + ") is another");
                    return false;
                }
            }
        }
        return true;
    }

    private long call(int which, int[] a, long wide) {
        switch (which) {
            case 0: return x.beam(a[0], a[1]);
            case 1: return x.now(a[0]);
            case 2: return x.load(a[0], a[1]);
            case 3: return x.thing(a[0], a[1]);
            case 4: return x.of(a[0], a[1]);
            case 5: return x.set(a[0], a[1], a[2]);
            case 6: return x.carry(a[0], a[1]);
            case 7: return x.turn(a[0], a[1]);
            case 8: return x.as(a[0], a[1]);
            case 9: return x.lay(a[0]);
            case 10: return x.take(a[0]);
            case 11: return x.seconds(a[0]);
            case 12: return x.on(a[0], a[1], a[2]);
            case 13: return x.then(a[0], a[1]);
            case 14: return x.gets(a[0]);
            case 15: return x.dry(a[0]);
            case 16: return x.lost(a[0]);
            case 17: return x.arrives(a[0]);
            case 18: return x.speed(a[0], a[1]);
            case 19: return x.far(a[0], a[1]);
            case 20: return x.kind(a[0], a[1]);
            case 21: return x.thick(a[0], a[1]);
            case 22: return x.save(a[0]);
            case 23: return x.goal(a[0]);
            case 24: return x.feed(a[0], a[1]);
            case 25: return x.wipe();
            case 26: return x.island();
            case 27: return x.sheet(a[0], a[1], a[2]);
            case 28: return x.write(a[0], a[1], wide);
            case 29: return x.copy(a[0], a[1], a[2], a[3], a[4]);
            case 30: return x.lays(a[0]);
            case 31: return x.book(a[0], a[1]);
            case 32: return x.read(a[0], a[1]);
            case 33: return x.image();
            case 34: return x.undo();
            case 35: return x.tear();
            case 36: return x.count(a[0]);
            default: return x.status(a[0]);
        }
    }

    /** A thing of the model, of a kind told by its name. */
    private static final class Thing {
        String kind;
        int at;
        int out = 3;
        boolean on = false;
        int wet = 50;
        int goal = 30;
        boolean lost = false;
        int times = 0;
        boolean wasOn = false;

        Thing(int kind, int at) {
            this.kind = NAMES[kind];
            this.at = at;
        }

        Thing(Thing t) {
            kind = t.kind;
            at = t.at;
            out = t.out;
            on = t.on;
            wet = t.wet;
            goal = t.goal;
            lost = t.lost;
            times = t.times;
        }
    }

    private static String above(String kind) {
        switch (kind) {
            case "thing": return null;
            case "sheet": return "wash";
            case "thief": return "rider";
            default: return "thing";
        }
    }

    private static int number(String kind) {
        return List.of(NAMES).indexOf(kind);
    }

    /** The beam and the things of the model. */
    private static final class World {
        int second = 0;
        int beam = 0;
        int speed = 2;
        int thick = 20;
        List<Thing> things = new ArrayList<>();

        World copied() {
            World w = new World();
            w.second = second;
            w.beam = beam;
            w.speed = speed;
            w.thick = thick;
            for (Thing t : things) {
                w.things.add(new Thing(t));
            }
            return w;
        }

        World ahead(int n) {
            World w = copied();
            for (int k = 0; k < n; k++) {
                w.second();
            }
            return w;
        }

        int othersOn(Thing t) {
            int others = 0;
            for (Thing o : things) {
                others += o != t && o.on ? 1 : 0;
            }
            return others;
        }

        int weighs(String kind, Thing t) {
            switch (kind) {
                case "thing": return 3;
                case "wash": return 1 + t.wet / 25;
                case "rider": return 4;
                case "guest": return weighs(above(kind), t) + 2;
                case "sheet": return weighs(above(kind), t) + 1;
                default: return weighs(above(kind), t) - 2;
            }
        }

        boolean getsOn(String kind, Thing t) {
            switch (kind) {
                case "thing": return false;
                case "wash": return t.wet > 0;
                case "rider": return t.at != t.goal;
                case "guest": return othersOn(t) < 3;
                case "sheet": return getsOn("wash", t) && !(speed > 5);
                default: return getsOn("rider", t) && othersOn(t) > 0;
            }
        }

        boolean getsOff(String kind, Thing t, int b) {
            switch (kind) {
                case "thing": return false;
                case "wash": return t.wet == 0;
                case "rider": return b == t.goal;
                case "guest": return b == 38 || b == 39;
                case "sheet": return getsOff("wash", t, b) || b >= 35;
                default: return getsOff("rider", t, b) || othersOn(t) == 0;
            }
        }

        int dries(String kind, Thing t) {
            switch (kind) {
                case "thing": return 1;
                case "wash": return 3 + t.out / 3;
                case "guest": return 0;
                case "sheet": return dries("wash", t) + speed / 2;
                default: return dries(above(kind), t);
            }
        }

        int liesAt(int out) {
            int all = 0;
            for (Thing t : things) {
                all += t.on && t.out == out ? weighs(t.kind, t) : 0;
            }
            return all;
        }

        int bears(int out) {
            return thick - 2 * out < 0 ? 0 : thick - 2 * out;
        }

        boolean bearsToo(Thing t) {
            return liesAt(t.out) + weighs(t.kind, t) <= bears(t.out);
        }

        void comesOn(Thing t) {
            t.on = true;
            t.times = t.times == 9999 ? 9999 : t.times + 1;
        }

        void second() {
            for (Thing t : things) {
                t.wasOn = t.on;
            }
            for (int k = 1; k <= speed; k++) {
                beam = (beam + 1) % 60;
                for (Thing t : things) {
                    if (t.on && getsOff(t.kind, t, beam)) {
                        t.on = false;
                        t.at = beam;
                    } else if (t.on && beam == 58) {
                        t.on = false;
                        t.at = 58;
                        t.lost = true;
                    } else if (!t.on && !t.wasOn && !t.lost && t.at == beam && getsOn(t.kind, t) && bearsToo(t)) {
                        comesOn(t);
                    }
                }
            }
            for (Thing t : things) {
                if (t.on) {
                    t.wet = t.wet < dries(t.kind, t) ? 0 : t.wet - dries(t.kind, t);
                    t.at = beam;
                }
            }
            second++;
        }

        int howMany(boolean lost) {
            int all = 0;
            for (Thing t : things) {
                all += (lost ? t.lost : t.on) ? 1 : 0;
            }
            return all;
        }
    }

    /** All that the document tells, with each call's answer. */
    private static final class Model {
        World now = new World();
        World kept = null;
        final StringBuilder tape = new StringBuilder();
        final long[][] sheets = new long[4][];
        final int[] bits = new int[4];
        final int[] found = new int[7];

        long answer(int which, int[] a, long wide) {
            long answer = which == 28 ? write(a[0], a[1], wide) : which < 18 ? first(which, a) : second(which, a);
            boolean isNumber = which == 28 && lastWasNumber;
            if (answer <= BEYOND && answer >= SIZE && !isNumber) {
                found[(int) (BEYOND - answer)]++;
            }
            return answer;
        }

        private boolean lastWasNumber = false;

        private long first(int which, int[] a) {
            switch (which) {
                case 0: return beam(a[0], a[1]);
                case 1: return now(a[0]);
                case 2: return load(a[0], a[1]);
                case 3: return thing(a[0], a[1]);
                case 4: return of(a[0], a[1]);
                case 5: return set(a[0], a[1], a[2]);
                case 6: return carry(a[0], a[1]);
                case 7: return turn(a[0], a[1]);
                case 8: return as(a[0], a[1]);
                case 9: return lay(a[0]);
                case 10: return take(a[0]);
                case 11: return seconds(a[0]);
                case 12: return on(a[0], a[1], a[2]);
                case 13: return then(a[0], a[1]);
                default: return until(which, a[0]);
            }
        }

        private long second(int which, int[] a) {
            switch (which) {
                case 18: return speed(a[0], a[1]);
                case 19: return far(a[0], a[1]);
                case 20: return kind(a[0], a[1]);
                case 21: return thick(a[0], a[1]);
                case 22: return save(a[0]);
                case 23: return goal(a[0]);
                case 24: return feed(a[0], a[1]);
                case 25: return wipe();
                case 26: return island();
                case 27: return sheet(a[0], a[1], a[2]);
                case 29: return copy(a[0], a[1], a[2], a[3], a[4]);
                case 30: return lays(a[0]);
                case 31: return book(a[0], a[1]);
                case 32: return read(a[0], a[1]);
                case 33: kept = now.copied(); return 1;
                case 34: return undo();
                case 35: return tear();
                case 36: return count(a[0]);
                default: return status(a[0]);
            }
        }

        boolean no(int thing) {
            return thing < 0 || thing >= now.things.size();
        }

        int beam(int what, int v) {
            int was = what == 0 ? now.beam : what == 1 ? now.speed : now.thick;
            int least = what == 0 ? 0 : 1;
            int most = what == 0 ? 59 : what == 1 ? 10 : 40;
            if (what < 0 || what > 2 || v < least || v > most) {
                return BEYOND;
            }
            now.beam = what == 0 ? v : now.beam;
            now.speed = what == 1 ? v : now.speed;
            now.thick = what == 2 ? v : now.thick;
            return was;
        }

        int now(int what) {
            int on = 0;
            int lost = 0;
            int weighs = 0;
            for (int i = 0; i < now.things.size(); i++) {
                Thing t = now.things.get(i);
                on += t.on ? (int) Math.pow(2, i) : 0;
                lost += t.lost ? (int) Math.pow(2, i) : 0;
                weighs += t.on ? now.weighs(t.kind, t) : 0;
            }
            int[] all = {now.second, now.beam, now.speed, now.thick, on, lost, weighs};
            return what < 0 || what > 6 ? BEYOND : all[what];
        }

        int load(int out, int what) {
            if (out < 0 || out > 9 || what < 0 || what > 1) {
                return BEYOND;
            }
            return what == 0 ? now.bears(out) : now.liesAt(out);
        }

        int thing(int kind, int bearing) {
            if (kind < 0 || kind > 5 || bearing < 0 || bearing > 59) {
                return BEYOND;
            }
            if (now.things.size() == 8) {
                return FULL;
            }
            now.things.add(new Thing(kind, bearing));
            return now.things.size() - 1;
        }

        int of(int thing, int what) {
            if (no(thing) || what < 0 || what > 9) {
                return BEYOND;
            }
            Thing t = now.things.get(thing);
            int[] all = {number(t.kind), t.at, t.out, t.on ? 1 : 0, t.wet, t.goal, t.lost ? 1 : 0, t.times,
                now.weighs(t.kind, t), now.dries(t.kind, t)};
            return all[what];
        }

        int set(int thing, int what, int v) {
            int[] most = {-1, -1, 9, -1, 99, 59, -1, 9999};
            if (no(thing) || what < 0 || what > 7 || v < 0 || v > most[what]) {
                return BEYOND;
            }
            int was = of(thing, what);
            Thing t = now.things.get(thing);
            t.out = what == 2 ? v : t.out;
            t.wet = what == 4 ? v : t.wet;
            t.goal = what == 5 ? v : t.goal;
            t.times = what == 7 ? v : t.times;
            return was;
        }

        int carry(int thing, int bearing) {
            if (no(thing) || bearing < 0 || bearing > 59) {
                return BEYOND;
            }
            Thing t = now.things.get(thing);
            if (t.on) {
                return STATE;
            }
            int was = t.at;
            t.at = bearing;
            t.lost = false;
            return was;
        }

        int turn(int thing, int kind) {
            if (no(thing) || kind < 0 || kind > 5) {
                return BEYOND;
            }
            Thing t = now.things.get(thing);
            int was = number(t.kind);
            t.kind = NAMES[kind];
            return was;
        }

        int as(int thing, int kind) {
            if (no(thing) || kind < 0 || kind > 5) {
                return BEYOND;
            }
            Thing t = now.things.get(thing);
            for (String k = t.kind; k != null; k = above(k)) {
                if (k.equals(NAMES[kind])) {
                    return t.wet;
                }
            }
            return KIND;
        }

        int lay(int thing) {
            if (no(thing)) {
                return BEYOND;
            }
            Thing t = now.things.get(thing);
            if (t.on || t.lost) {
                return STATE;
            }
            if (!now.bearsToo(t)) {
                return FULL;
            }
            now.comesOn(t);
            t.at = now.beam;
            return now.liesAt(t.out);
        }

        int take(int thing) {
            if (no(thing)) {
                return BEYOND;
            }
            Thing t = now.things.get(thing);
            if (!t.on) {
                return STATE;
            }
            t.on = false;
            t.at = now.beam;
            return t.at;
        }

        int seconds(int n) {
            if (n < 1 || n > 200) {
                return BEYOND;
            }
            if (now.second + n > 99999) {
                return STATE;
            }
            now = now.ahead(n);
            return now(4);
        }

        int on(int thing, int n, int what) {
            if (no(thing) || n < 0 || n > 400 || what < 0 || what > 4) {
                return BEYOND;
            }
            Thing t = now.ahead(n).things.get(thing);
            return new int[] {t.at, t.on ? 1 : 0, t.wet, t.lost ? 1 : 0, t.times}[what];
        }

        int then(int n, int what) {
            if (n < 0 || n > 400 || what < 0 || what > 1) {
                return BEYOND;
            }
            return now.ahead(n).howMany(what == 1);
        }

        int until(int which, int thing) {
            if (no(thing)) {
                return BEYOND;
            }
            World w = now.copied();
            for (int n = 0; n <= 400; n++) {
                Thing t = w.things.get(thing);
                boolean[] all = {t.on, t.wet == 0, t.lost, t.at == t.goal && !t.on};
                if (all[which - 14]) {
                    return n;
                }
                w.second();
            }
            return NONE;
        }

        int speed(int thing, int n) {
            if (no(thing) || n < 1 || n > 120) {
                return BEYOND;
            }
            int[] wets = new int[10];
            for (int speed = 1; speed <= 10; speed++) {
                World w = now.copied();
                w.speed = speed;
                wets[speed - 1] = w.ahead(n).things.get(thing).wet;
            }
            return 1 + leastOf(wets);
        }

        int leastOf(int[] row) {
            int best = row.length - 1;
            for (int k = row.length - 1; k >= 0; k--) {
                best = row[k] <= row[best] ? k : best;
            }
            return best;
        }

        int far(int thing, int n) {
            if (no(thing) || n < 1 || n > 120) {
                return BEYOND;
            }
            int[] timesBelow = new int[10];
            for (int out = 0; out <= 9; out++) {
                World w = now.copied();
                w.things.get(thing).out = out;
                timesBelow[out] = -w.ahead(n).things.get(thing).times;
            }
            return leastOf(timesBelow);
        }

        int kind(int thing, int n) {
            if (no(thing) || n < 1 || n > 120) {
                return BEYOND;
            }
            int[] wets = new int[6];
            for (int kind = 0; kind < 6; kind++) {
                World w = now.copied();
                w.things.get(thing).kind = NAMES[kind];
                wets[kind] = w.ahead(n).things.get(thing).wet;
            }
            return leastOf(wets);
        }

        int thick(int n, int v) {
            if (n < 0 || n > 120 || v < 0 || v > 8) {
                return BEYOND;
            }
            int least = NONE;
            for (int thick = 40; thick >= 1; thick--) {
                World w = now.copied();
                w.thick = thick;
                least = w.ahead(n).howMany(false) >= v ? thick : least;
            }
            return least;
        }

        int save(int n) {
            if (n < 1 || n > 120) {
                return BEYOND;
            }
            int best = NONE;
            int fewest = 99;
            for (int i = now.things.size() - 1; i >= 0; i--) {
                if (now.things.get(i).on) {
                    World w = now.copied();
                    w.things.get(i).on = false;
                    w.things.get(i).at = w.beam;
                    int lost = w.ahead(n).howMany(true);
                    best = lost <= fewest ? i : best;
                    fewest = Math.min(lost, fewest);
                }
            }
            return best;
        }

        int goal(int thing) {
            if (no(thing)) {
                return BEYOND;
            }
            int was = now.things.get(thing).goal;
            int best = NONE;
            int soonest = 121;
            for (int goal = 59; goal >= 0; goal--) {
                now.things.get(thing).goal = goal;
                int n = until(17, thing);
                if (n >= 1 && n <= 120 && n <= soonest) {
                    best = goal;
                    soonest = n;
                }
            }
            now.things.get(thing).goal = was;
            return best;
        }

        int feed(int bytes, int n) {
            if (n < 1 || n > 4) {
                return BEYOND;
            }
            if (tape.length() + n > 120) {
                return FULL;
            }
            char[] all = {(char) (bytes >> 24 & 255), (char) (bytes >> 16 & 255), (char) (bytes >> 8 & 255), (char) (bytes & 255)};
            tape.append(all, 4 - n, n);
            return tape.length();
        }

        int wipe() {
            int had = tape.length();
            tape.setLength(0);
            return had;
        }

        int island() {
            World w = now.copied();
            int answer = new Text(tape.toString()).told(w);
            tape.setLength(0);
            now = answer < 0 ? now : w;
            return answer;
        }

        int sheet(int s, int b, int n) {
            if (s < 0 || s > 3 || b != 0 && b != 8 && b != 16 && b != 64) {
                return BEYOND;
            }
            if (n < 0) {
                return SIZE;
            }
            if (n > 40) {
                return BEYOND;
            }
            bits[s] = b;
            sheets[s] = b == 0 ? null : new long[n];
            return b == 0 ? 0 : n;
        }

        int lacks(int s) {
            return s < 0 || s > 3 ? BEYOND : sheets[s] == null ? MISSING : 0;
        }

        long write(int s, int i, long v) {
            lastWasNumber = false;
            if (lacks(s) != 0) {
                return lacks(s);
            }
            if (i < 0 || i >= sheets[s].length) {
                return BEYOND;
            }
            lastWasNumber = true;
            long was = sheets[s][i];
            sheets[s][i] = v << (64 - bits[s]) >> (64 - bits[s]);
            return was;
        }

        int copy(int s, int from, int t, int to, int n) {
            if (lacks(s) == BEYOND || lacks(t) == BEYOND) {
                return BEYOND;
            }
            if (lacks(s) != 0 || lacks(t) != 0) {
                return MISSING;
            }
            if (bits[s] != bits[t]) {
                return KIND;
            }
            if (from < 0 || to < 0 || n < 0 || (long) from + n > sheets[s].length || (long) to + n > sheets[t].length) {
                return BEYOND;
            }
            long[] were = sheets[s].clone();
            for (int k = 0; k < n; k++) {
                sheets[t][to + k] = were[from + k];
            }
            return n;
        }

        int lays(int s) {
            if (lacks(s) != 0) {
                return lacks(s);
            }
            int came = 0;
            for (int i = 0; i < sheets[s].length; i++) {
                if (sheets[s][i] >= 0 && sheets[s][i] <= 99 && !no(i)) {
                    now.things.get(i).wet = (int) sheets[s][i];
                    came++;
                }
            }
            return came;
        }

        int book(int s, int thing) {
            if (lacks(s) != 0 || no(thing)) {
                return lacks(s) != 0 ? lacks(s) : BEYOND;
            }
            for (int i = 0; i < sheets[s].length; i++) {
                sheets[s][i] = now.ahead(i).things.get(thing).at;
            }
            return sheets[s].length;
        }

        int read(int s, int thing) {
            if (lacks(s) != 0 || no(thing)) {
                return lacks(s) != 0 ? lacks(s) : BEYOND;
            }
            int pairs = 0;
            for (int pair = 0; pair < 60; pair++) {
                World w = now.copied();
                w.things.get(thing).kind = NAMES[pair / 10];
                w.speed = 1 + pair % 10;
                boolean so = true;
                for (int i = 0; i < sheets[s].length && so; i++) {
                    so = w.ahead(i).things.get(thing).at == sheets[s][i];
                }
                pairs += so ? 1 : 0;
            }
            return pairs;
        }

        int undo() {
            if (kept == null) {
                return NONE;
            }
            now = kept.copied();
            return now.things.size();
        }

        int tear() {
            int had = kept == null ? 0 : 1;
            kept = null;
            return had;
        }

        int count(int what) {
            int wets = 0;
            int times = 0;
            for (Thing t : now.things) {
                wets += t.wet;
                times += t.times;
            }
            return what < 0 || what > 3 ? BEYOND : new int[] {now.things.size(), tape.length(), wets, times}[what];
        }

        int status(int which) {
            if (which < -1 || which > 6) {
                return BEYOND;
            }
            int all = 0;
            for (int f : found) {
                all += f;
            }
            return which == -1 ? all : found[which];
        }
    }

    /** The text of an island, cut into tokens first and read then. */
    private static final class Text {
        final List<String> tokens = new ArrayList<>();
        final List<Integer> places = new ArrayList<>();
        int next = 0;

        Text(String tape) {
            Matcher m = Pattern.compile("[a-z]+|[0-9]+|[^ ]").matcher(tape);
            while (m.find()) {
                tokens.add(m.group());
                places.add(m.start());
            }
            tokens.add("");
            places.add(tape.length());
        }

        int told(World w) {
            int items = 0;
            while (item(w)) {
                items++;
                if (is("")) {
                    return items;
                }
                if (!is(";")) {
                    break;
                }
                next++;
            }
            return -1 - places.get(next);
        }

        boolean is(String token) {
            return tokens.get(next).equals(token);
        }

        /** The number behind the word that is next, or -1: then it is next. */
        int valued(int least, int most) {
            next++;
            String t = tokens.get(next);
            if (!t.matches("0*[0-9]{1,3}") || Integer.parseInt(t) < least || Integer.parseInt(t) > most) {
                return -1;
            }
            next++;
            return Integer.parseInt(t);
        }

        boolean item(World w) {
            int kind = number(tokens.get(next));
            if (kind >= 0) {
                return w.things.size() < 8 && thing(w, kind);
            }
            int v;
            if (is("beam")) {
                v = valued(0, 59);
                w.beam = v;
            } else if (is("speed")) {
                v = valued(1, 10);
                w.speed = v;
            } else if (is("thick")) {
                v = valued(1, 40);
                w.thick = v;
            } else {
                v = -1;
            }
            return v >= 0;
        }

        boolean thing(World w, int kind) {
            int at = valued(0, 59);
            if (at < 0) {
                return false;
            }
            Thing t = new Thing(kind, at);
            w.things.add(t);
            t.out = is("out") ? valued(0, 9) : t.out;
            t.wet = t.out >= 0 && is("wet") ? valued(0, 99) : t.wet;
            t.goal = t.out >= 0 && t.wet >= 0 && is("goal") ? valued(0, 59) : t.goal;
            return t.out >= 0 && t.wet >= 0 && t.goal >= 0;
        }
    }
}
