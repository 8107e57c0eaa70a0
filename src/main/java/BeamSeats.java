/** A beam that goes round an island, and the things that lie on it, dry, ride or are lost. */
public final class BeamSeats {
    private static final int BEYOND = -1000000001;
    private static final int FULL = -1000000002;
    private static final int KIND = -1000000003;
    private static final int NONE = -1000000004;
    private static final int STATE = -1000000005;
    private static final int MISSING = -1000000006;
    private static final int SIZE = -1000000007;
    private static final int FINDINGS = 7;

    private static final int THING = 0;
    private static final int WASH = 1;
    private static final int RIDER = 2;
    private static final int GUEST = 3;
    private static final int SHEET = 4;
    private static final int THIEF = 5;
    private static final int MOST_KIND = 5;
    private static final int[] KIND_ABOVE = {-1, THING, THING, THING, WASH, RIDER};

    private static final int MOST_SECOND = 99999;
    private static final int MOST_BEARING = 59;
    private static final int SEA_BEARING = 58;
    private static final int MOST_SPEED = 10;
    private static final int MOST_THICK = 40;
    private static final int MOST_THINGS = 8;
    private static final int MOST_OUT = 9;
    private static final int MOST_WET = 99;
    private static final int MOST_TIMES = 9999;

    private static final int MOST_SECONDS_AT_ONCE = 200;
    private static final int MOST_AHEAD = 400;
    private static final int MOST_AHEAD_FOR_BEST = 120;

    private static final int COMES_ON = 0;
    private static final int IS_DRY = 1;
    private static final int IS_LOST = 2;
    private static final int ARRIVES = 3;

    private static final int MOST_TAPE = 120;
    private static final int SHEETS = 4;
    private static final int MOST_NUMBERS = 40;

    private final Island real = new Island();
    /** Where what would be is tried out; each call that uses it sets it anew. */
    private final Island trial = new Island();
    private final Island kept = new Island();
    private boolean isKept = false;
    private final Tape tape = new Tape();
    private final Sheet[] sheets = new Sheet[SHEETS];
    private final int[] findings = new int[FINDINGS];

    public BeamSeats() {
        for (int s = 0; s < SHEETS; s++) {
            sheets[s] = new Sheet();
        }
    }

    // ---- the beam

    public int beam(int what, int v) {
        int was;
        if (what == 0 && within(v, 0, MOST_BEARING)) {
            was = real.bearing;
            real.bearing = v;
        } else if (what == 1 && within(v, 1, MOST_SPEED)) {
            was = real.speed;
            real.speed = v;
        } else if (what == 2 && within(v, 1, MOST_THICK)) {
            was = real.thick;
            real.thick = v;
        } else {
            return found(BEYOND);
        }
        return was;
    }

    public int now(int what) {
        switch (what) {
            case 0:
                return real.second;
            case 1:
                return real.bearing;
            case 2:
                return real.speed;
            case 3:
                return real.thick;
            case 4:
                return real.onSet;
            case 5:
                return real.lostSet;
            case 6:
                return real.weightOfAll();
            default:
                return found(BEYOND);
        }
    }

    public int load(int out, int what) {
        if (!within(out, 0, MOST_OUT) || !within(what, 0, 1)) {
            return found(BEYOND);
        }
        return what == 0 ? real.bears(out) : real.weightAt(out);
    }

    // ---- things

    public int thing(int kind, int bearing) {
        if (!within(kind, 0, MOST_KIND) || !within(bearing, 0, MOST_BEARING)) {
            return found(BEYOND);
        }
        if (real.size >= MOST_THINGS) {
            return found(FULL);
        }
        return real.add(kind, bearing);
    }

    public int of(int thing, int what) {
        if (!real.has(thing)) {
            return found(BEYOND);
        }
        switch (what) {
            case 0:
                return real.kinds[thing];
            case 1:
                return real.places[thing];
            case 2:
                return real.outs[thing];
            case 3:
                return real.isOn(thing) ? 1 : 0;
            case 4:
                return real.wets[thing];
            case 5:
                return real.goals[thing];
            case 6:
                return real.isLost(thing) ? 1 : 0;
            case 7:
                return real.times[thing];
            case 8:
                return real.weightOf(thing);
            case 9:
                return real.dries(thing);
            default:
                return found(BEYOND);
        }
    }

    public int set(int thing, int what, int v) {
        int[] row = rowToSet(what);
        if (!real.has(thing) || row == null || !within(v, 0, mostToSet(what))) {
            return found(BEYOND);
        }
        int was = row[thing];
        row[thing] = v;
        return was;
    }

    public int carry(int thing, int bearing) {
        if (!real.has(thing) || !within(bearing, 0, MOST_BEARING)) {
            return found(BEYOND);
        }
        if (real.isOn(thing)) {
            return found(STATE);
        }
        int was = real.places[thing];
        real.places[thing] = bearing;
        real.lostSet &= ~(1 << thing);
        return was;
    }

    public int turn(int thing, int kind) {
        if (!real.has(thing) || !within(kind, 0, MOST_KIND)) {
            return found(BEYOND);
        }
        int was = real.kinds[thing];
        real.kinds[thing] = kind;
        return was;
    }

    public int as(int thing, int kind) {
        if (!real.has(thing) || !within(kind, 0, MOST_KIND)) {
            return found(BEYOND);
        }
        return isOfKind(real.kinds[thing], kind) ? real.wets[thing] : found(KIND);
    }

    public int lay(int thing) {
        if (!real.has(thing)) {
            return found(BEYOND);
        }
        if (real.isOn(thing) || real.isLost(thing)) {
            return found(STATE);
        }
        if (!real.isBorne(thing)) {
            return found(FULL);
        }
        real.comeOn(thing);
        real.places[thing] = real.bearing;
        return real.weightAt(real.outs[thing]);
    }

    public int take(int thing) {
        if (!real.has(thing)) {
            return found(BEYOND);
        }
        if (!real.isOn(thing)) {
            return found(STATE);
        }
        real.goOff(thing);
        return real.bearing;
    }

    // ---- seconds

    public int seconds(int n) {
        if (!within(n, 1, MOST_SECONDS_AT_ONCE)) {
            return found(BEYOND);
        }
        if (real.second + n > MOST_SECOND) {
            return found(STATE);
        }
        real.goSeconds(n);
        return real.onSet;
    }

    public int on(int thing, int n, int what) {
        if (!real.has(thing) || !within(n, 0, MOST_AHEAD) || !within(what, 0, 4)) {
            return found(BEYOND);
        }
        trial.becomes(real);
        trial.goSeconds(n);
        switch (what) {
            case 0:
                return trial.places[thing];
            case 1:
                return trial.isOn(thing) ? 1 : 0;
            case 2:
                return trial.wets[thing];
            case 3:
                return trial.isLost(thing) ? 1 : 0;
            default:
                return trial.times[thing];
        }
    }

    public int then(int n, int what) {
        if (!within(n, 0, MOST_AHEAD) || !within(what, 0, 1)) {
            return found(BEYOND);
        }
        trial.becomes(real);
        trial.goSeconds(n);
        return Integer.bitCount(what == 0 ? trial.onSet : trial.lostSet);
    }

    public int gets(int thing) {
        if (!real.has(thing)) {
            return found(BEYOND);
        }
        trial.becomes(real);
        return orNone(secondsUntil(thing, COMES_ON, MOST_AHEAD));
    }

    public int dry(int thing) {
        if (!real.has(thing)) {
            return found(BEYOND);
        }
        trial.becomes(real);
        return orNone(secondsUntil(thing, IS_DRY, MOST_AHEAD));
    }

    public int lost(int thing) {
        if (!real.has(thing)) {
            return found(BEYOND);
        }
        trial.becomes(real);
        return orNone(secondsUntil(thing, IS_LOST, MOST_AHEAD));
    }

    public int arrives(int thing) {
        if (!real.has(thing)) {
            return found(BEYOND);
        }
        trial.becomes(real);
        return orNone(secondsUntil(thing, ARRIVES, MOST_AHEAD));
    }

    // ---- what is best

    public int speed(int thing, int n) {
        if (!real.has(thing) || !within(n, 1, MOST_AHEAD_FOR_BEST)) {
            return found(BEYOND);
        }
        int best = 1;
        int least = MOST_WET + 1;
        for (int speed = 1; speed <= MOST_SPEED; speed++) {
            trial.becomes(real);
            trial.speed = speed;
            trial.goSeconds(n);
            if (trial.wets[thing] < least) {
                least = trial.wets[thing];
                best = speed;
            }
        }
        return best;
    }

    public int far(int thing, int n) {
        if (!real.has(thing) || !within(n, 1, MOST_AHEAD_FOR_BEST)) {
            return found(BEYOND);
        }
        int best = 0;
        int most = -1;
        for (int out = 0; out <= MOST_OUT; out++) {
            trial.becomes(real);
            trial.outs[thing] = out;
            trial.goSeconds(n);
            if (trial.times[thing] > most) {
                most = trial.times[thing];
                best = out;
            }
        }
        return best;
    }

    public int kind(int thing, int n) {
        if (!real.has(thing) || !within(n, 1, MOST_AHEAD_FOR_BEST)) {
            return found(BEYOND);
        }
        int best = 0;
        int least = MOST_WET + 1;
        for (int kind = 0; kind <= MOST_KIND; kind++) {
            trial.becomes(real);
            trial.kinds[thing] = kind;
            trial.goSeconds(n);
            if (trial.wets[thing] < least) {
                least = trial.wets[thing];
                best = kind;
            }
        }
        return best;
    }

    public int thick(int n, int v) {
        if (!within(n, 0, MOST_AHEAD_FOR_BEST) || !within(v, 0, MOST_THINGS)) {
            return found(BEYOND);
        }
        for (int thick = 1; thick <= MOST_THICK; thick++) {
            trial.becomes(real);
            trial.thick = thick;
            trial.goSeconds(n);
            if (Integer.bitCount(trial.onSet) >= v) {
                return thick;
            }
        }
        return found(NONE);
    }

    public int save(int n) {
        if (!within(n, 1, MOST_AHEAD_FOR_BEST)) {
            return found(BEYOND);
        }
        int best = NONE;
        int fewest = MOST_THINGS + 1;
        for (int i = 0; i < real.size; i++) {
            int lost = real.isOn(i) ? lostWithout(i, n) : MOST_THINGS + 1;
            if (lost < fewest) {
                fewest = lost;
                best = i;
            }
        }
        return orNone(best);
    }

    public int goal(int thing) {
        if (!real.has(thing)) {
            return found(BEYOND);
        }
        int best = NONE;
        int most = MOST_AHEAD_FOR_BEST;
        for (int goal = 0; goal <= MOST_BEARING; goal++) {
            trial.becomes(real);
            trial.goals[thing] = goal;
            int n = secondsUntil(thing, ARRIVES, most);
            if (n > 0) {
                best = goal;
                // only one that is sooner is better, so later seconds need no look
                most = n - 1;
            }
        }
        return orNone(best);
    }

    // ---- the text

    public int feed(int bytes, int n) {
        if (!within(n, 1, 4)) {
            return found(BEYOND);
        }
        if (tape.size + n > MOST_TAPE) {
            return found(FULL);
        }
        for (int k = n - 1; k >= 0; k--) {
            tape.append((byte) (bytes >>> (8 * k)));
        }
        return tape.size;
    }

    public int wipe() {
        int had = tape.size;
        tape.size = 0;
        return had;
    }

    public int island() {
        trial.becomes(real);
        int answer = tape.tell(trial);
        tape.size = 0;
        if (answer >= 0) {
            real.becomes(trial);
        }
        return answer;
    }

    // ---- sheets

    public int sheet(int s, int bits, int n) {
        if (!within(s, 0, SHEETS - 1) || !(bits == 0 || bits == 8 || bits == 16 || bits == 64)) {
            return found(BEYOND);
        }
        if (n < 0) {
            return found(SIZE);
        }
        if (n > MOST_NUMBERS) {
            return found(BEYOND);
        }
        sheets[s].renew(bits, n);
        return sheets[s].size;
    }

    public long write(int s, int i, long v) {
        int finding = findingOfSheet(s);
        if (finding != 0) {
            return found(finding);
        }
        if (!within(i, 0, sheets[s].size - 1)) {
            return found(BEYOND);
        }
        long was = sheets[s].numbers[i];
        sheets[s].put(i, v);
        return was;
    }

    public int copy(int s, int from, int t, int to, int n) {
        if (!within(s, 0, SHEETS - 1) || !within(t, 0, SHEETS - 1)) {
            return found(BEYOND);
        }
        if (sheets[s].bits == 0 || sheets[t].bits == 0) {
            return found(MISSING);
        }
        if (sheets[s].bits != sheets[t].bits) {
            return found(KIND);
        }
        if (!sheets[s].hasNumbers(from, n) || !sheets[t].hasNumbers(to, n)) {
            return found(BEYOND);
        }
        System.arraycopy(sheets[s].numbers, from, sheets[t].numbers, to, n);
        return n;
    }

    public int lays(int s) {
        int finding = findingOfSheet(s);
        if (finding != 0) {
            return found(finding);
        }
        int came = 0;
        for (int i = 0; i < sheets[s].size && i < real.size; i++) {
            long wet = sheets[s].numbers[i];
            if (wet >= 0 && wet <= MOST_WET) {
                real.wets[i] = (int) wet;
                came++;
            }
        }
        return came;
    }

    public int book(int s, int thing) {
        int finding = findingOfSheet(s);
        if (finding == 0 && !real.has(thing)) {
            finding = BEYOND;
        }
        if (finding != 0) {
            return found(finding);
        }
        trial.becomes(real);
        for (int i = 0; i < sheets[s].size; i++) {
            sheets[s].put(i, trial.places[thing]);
            trial.goSeconds(1);
        }
        return sheets[s].size;
    }

    public int read(int s, int thing) {
        int finding = findingOfSheet(s);
        if (finding == 0 && !real.has(thing)) {
            finding = BEYOND;
        }
        if (finding != 0) {
            return found(finding);
        }
        int pairs = 0;
        for (int kind = 0; kind <= MOST_KIND; kind++) {
            for (int speed = 1; speed <= MOST_SPEED; speed++) {
                trial.becomes(real);
                trial.kinds[thing] = kind;
                trial.speed = speed;
                if (goesAsBooked(sheets[s], thing)) {
                    pairs++;
                }
            }
        }
        return pairs;
    }

    // ---- images

    public int image() {
        kept.becomes(real);
        isKept = true;
        return 1;
    }

    public int undo() {
        if (!isKept) {
            return found(NONE);
        }
        real.becomes(kept);
        return real.size;
    }

    public int tear() {
        int answer = isKept ? 1 : 0;
        isKept = false;
        return answer;
    }

    public int count(int what) {
        switch (what) {
            case 0:
                return real.size;
            case 1:
                return tape.size;
            case 2:
                return sum(real.wets, real.size);
            case 3:
                return sum(real.times, real.size);
            default:
                return found(BEYOND);
        }
    }

    public int status(int which) {
        if (!within(which, -1, FINDINGS - 1)) {
            return found(BEYOND);
        }
        return which == -1 ? sum(findings, FINDINGS) : findings[which];
    }

    // ---- what the calls above share

    private int found(int finding) {
        int which = BEYOND - finding;
        if (within(which, 0, FINDINGS - 1)) {
            findings[which]++;
        }
        return finding;
    }

    private int orNone(int answer) {
        return answer == NONE ? found(NONE) : answer;
    }

    private static boolean within(int v, int least, int most) {
        return v >= least && v <= most;
    }

    private static int sum(int[] row, int n) {
        int all = 0;
        for (int i = 0; i < n && i < row.length; i++) {
            all += row[i];
        }
        return all;
    }

    private static boolean isOfKind(int kind, int wanted) {
        int k = kind;
        for (int level = 0; level <= MOST_KIND && within(k, 0, MOST_KIND); level++) {
            if (k == wanted) {
                return true;
            }
            k = KIND_ABOVE[k];
        }
        return false;
    }

    private int[] rowToSet(int what) {
        switch (what) {
            case 2:
                return real.outs;
            case 4:
                return real.wets;
            case 5:
                return real.goals;
            case 7:
                return real.times;
            default:
                return null;
        }
    }

    private static int mostToSet(int what) {
        switch (what) {
            case 2:
                return MOST_OUT;
            case 4:
                return MOST_WET;
            case 5:
                return MOST_BEARING;
            case 7:
                return MOST_TIMES;
            default:
                return -1;
        }
    }

    /** Goes on with the trial as it stands until the event, for so many seconds at most. */
    private int secondsUntil(int thing, int event, int most) {
        for (int n = 0; n <= most; n++) {
            if (trial.isSo(thing, event)) {
                return n;
            }
            trial.goSeconds(1);
        }
        return NONE;
    }

    private int lostWithout(int thing, int n) {
        trial.becomes(real);
        trial.goOff(thing);
        trial.goSeconds(n);
        return Integer.bitCount(trial.lostSet);
    }

    /** The finding that a sheet's number and being there come to, or 0. */
    private int findingOfSheet(int s) {
        if (!within(s, 0, SHEETS - 1)) {
            return BEYOND;
        }
        return sheets[s].bits == 0 ? MISSING : 0;
    }

    private boolean goesAsBooked(Sheet booked, int thing) {
        for (int i = 0; i < booked.size; i++) {
            if (booked.numbers[i] != trial.places[thing]) {
                return false;
            }
            trial.goSeconds(1);
        }
        return true;
    }

    /** All that section 1 of the document tells but the tape: what an image keeps. */
    private static final class Island {
        int second = 0;
        int bearing = 0;
        int speed = 2;
        int thick = 20;
        int size = 0;
        int onSet = 0;
        int lostSet = 0;
        final int[] kinds = new int[MOST_THINGS];
        final int[] places = new int[MOST_THINGS];
        final int[] outs = new int[MOST_THINGS];
        final int[] wets = new int[MOST_THINGS];
        final int[] goals = new int[MOST_THINGS];
        final int[] times = new int[MOST_THINGS];

        void becomes(Island other) {
            second = other.second;
            bearing = other.bearing;
            speed = other.speed;
            thick = other.thick;
            size = other.size;
            onSet = other.onSet;
            lostSet = other.lostSet;
            for (int i = 0; i < size; i++) {
                kinds[i] = other.kinds[i];
                places[i] = other.places[i];
                outs[i] = other.outs[i];
                wets[i] = other.wets[i];
                goals[i] = other.goals[i];
                times[i] = other.times[i];
            }
        }

        boolean has(int i) {
            return i >= 0 && i < size;
        }

        boolean isOn(int i) {
            return (onSet >> i & 1) == 1;
        }

        boolean isLost(int i) {
            return (lostSet >> i & 1) == 1;
        }

        /** The caller has seen that there is room for one more. */
        int add(int kind, int bearingOfIt) {
            int i = size;
            kinds[i] = kind;
            places[i] = bearingOfIt;
            outs[i] = 3;
            wets[i] = 50;
            goals[i] = 30;
            times[i] = 0;
            size++;
            return i;
        }

        int weightOf(int i) {
            int ofWash = 1 + wets[i] / 25;
            switch (kinds[i]) {
                case WASH:
                    return ofWash;
                case RIDER:
                    return 4;
                case GUEST:
                    return 3 + 2;
                case SHEET:
                    return ofWash + 1;
                case THIEF:
                    return 4 - 2;
                default:
                    return 3;
            }
        }

        int weightAt(int out) {
            int all = 0;
            for (int i = 0; i < size; i++) {
                if (outs[i] == out && isOn(i)) {
                    all += weightOf(i);
                }
            }
            return all;
        }

        int weightOfAll() {
            int all = 0;
            for (int i = 0; i < size; i++) {
                if (isOn(i)) {
                    all += weightOf(i);
                }
            }
            return all;
        }

        int bears(int out) {
            return Math.max(0, thick - 2 * out);
        }

        boolean isBorne(int i) {
            return weightAt(outs[i]) + weightOf(i) <= bears(outs[i]);
        }

        /** Asked of one that isn't on: all that are on are others. */
        boolean getsOn(int i) {
            switch (kinds[i]) {
                case WASH:
                    return wets[i] > 0;
                case RIDER:
                    return places[i] != goals[i];
                case GUEST:
                    return Integer.bitCount(onSet) < 3;
                case SHEET:
                    return wets[i] > 0 && speed <= 5;
                case THIEF:
                    return places[i] != goals[i] && onSet != 0;
                default:
                    return false;
            }
        }

        /** Asked of one that is on, with the beam where it is. */
        boolean getsOff(int i) {
            switch (kinds[i]) {
                case WASH:
                    return wets[i] == 0;
                case RIDER:
                    return bearing == goals[i];
                case GUEST:
                    return bearing == 38 || bearing == 39;
                case SHEET:
                    return wets[i] == 0 || bearing >= 35;
                case THIEF:
                    return bearing == goals[i] || onSet == 1 << i;
                default:
                    return false;
            }
        }

        int dries(int i) {
            int asWash = 3 + outs[i] / 3;
            switch (kinds[i]) {
                case WASH:
                    return asWash;
                case GUEST:
                    return 0;
                case SHEET:
                    return asWash + speed / 2;
                default:
                    return 1;
            }
        }

        void comeOn(int i) {
            onSet |= 1 << i;
            times[i] = Math.min(times[i] + 1, MOST_TIMES);
        }

        void goOff(int i) {
            onSet &= ~(1 << i);
            places[i] = bearing;
        }

        void goSeconds(int n) {
            for (int k = 0; k < n; k++) {
                int onAtFirst = onSet;
                for (int step = 0; step < speed; step++) {
                    bearing = bearing >= MOST_BEARING ? 0 : bearing + 1;
                    passBearing(onAtFirst);
                }
                dryAndRide();
                second++;
            }
        }

        void passBearing(int onAtFirst) {
            for (int i = 0; i < size; i++) {
                int bit = 1 << i;
                if ((onSet & bit) != 0) {
                    leaveOrBeLost(i);
                } else if (places[i] == bearing && ((onAtFirst | lostSet) & bit) == 0
                        && getsOn(i) && isBorne(i)) {
                    comeOn(i);
                }
            }
        }

        void leaveOrBeLost(int i) {
            if (getsOff(i)) {
                goOff(i);
            } else if (bearing == SEA_BEARING) {
                goOff(i);
                lostSet |= 1 << i;
            }
        }

        void dryAndRide() {
            for (int i = 0; i < size; i++) {
                if (isOn(i)) {
                    wets[i] = Math.max(0, wets[i] - dries(i));
                    places[i] = bearing;
                }
            }
        }

        boolean isSo(int i, int event) {
            switch (event) {
                case COMES_ON:
                    return isOn(i);
                case IS_DRY:
                    return wets[i] == 0;
                case IS_LOST:
                    return isLost(i);
                default:
                    return places[i] == goals[i] && !isOn(i);
            }
        }
    }

    /** The bytes of a text, the tokens that they are cut into, and their reading. */
    private static final class Tape {
        private static final int END = 0;
        private static final int WORD = 1;
        private static final int NUMBER = 2;
        private static final int SIGN = 3;
        private static final int NO_TOKEN = 4;

        private static final int BEAM_WORD = 6;
        private static final int SPEED_WORD = 7;
        private static final int THICK_WORD = 8;
        private static final int OUT_WORD = 9;
        private static final int WET_WORD = 10;
        private static final int GOAL_WORD = 11;
        private static final int OTHER_WORD = 12;
        private static final int ABOVE_ALL_NUMBERS = 1000;

        final byte[] bytes = new byte[MOST_TAPE];
        int size = 0;
        /** Of each token: what it is, where it begins, its word or number; the last is END. */
        private final int[] tokens = new int[MOST_TAPE + 1];
        private final int[] starts = new int[MOST_TAPE + 1];
        private final int[] values = new int[MOST_TAPE + 1];
        /** The token that is looked at; none is passed but WORD, NUMBER and SIGN, so END stays ahead. */
        private int next = 0;
        /** The number that was read latest. */
        private int number = 0;

        /** The caller has seen that there is room for one more. */
        void append(byte b) {
            bytes[size] = b;
            size++;
        }

        /** How many items came to the island, or -1 less the place of the fault. */
        int tell(Island to) {
            cutTokens();
            next = 0;
            for (int items = 1; items <= MOST_TAPE && tellItem(to); items++) {
                if (tokens[next] == END) {
                    return items;
                }
                if (tokens[next] != SIGN) {
                    break;
                }
                next++;
            }
            return -1 - starts[next];
        }

        /** Whether an item stands here; if not, the token looked at is the one at fault. */
        private boolean tellItem(Island to) {
            if (tokens[next] != WORD) {
                return false;
            }
            int word = values[next];
            if (word <= MOST_KIND) {
                return tellThing(to, word);
            }
            if (word == BEAM_WORD && numberBehind(0, MOST_BEARING)) {
                to.bearing = number;
                return true;
            }
            if (word == SPEED_WORD && numberBehind(1, MOST_SPEED)) {
                to.speed = number;
                return true;
            }
            if (word == THICK_WORD && numberBehind(1, MOST_THICK)) {
                to.thick = number;
                return true;
            }
            return false;
        }

        private boolean tellThing(Island to, int kind) {
            if (to.size >= MOST_THINGS || !numberBehind(0, MOST_BEARING)) {
                return false;
            }
            int i = to.add(kind, number);
            return tellPart(OUT_WORD, MOST_OUT, to.outs, i)
                    && tellPart(WET_WORD, MOST_WET, to.wets, i)
                    && tellPart(GOAL_WORD, MOST_BEARING, to.goals, i);
        }

        /** A part that may be left out: only a word that stands here needs its number. */
        private boolean tellPart(int word, int most, int[] row, int i) {
            if (tokens[next] != WORD || values[next] != word) {
                return true;
            }
            if (!numberBehind(0, most)) {
                return false;
            }
            row[i] = number;
            return true;
        }

        /** Goes from a word over the number behind it, or stays at what stands there instead. */
        private boolean numberBehind(int least, int most) {
            next++;
            if (tokens[next] != NUMBER || !within(values[next], least, most)) {
                return false;
            }
            number = values[next];
            next++;
            return true;
        }

        private void cutTokens() {
            int cut = 0;
            int end = 0;
            for (int place = 0; place < size; place++) {
                if (place >= end && bytes[place] != ' ') {
                    end = cutToken(cut, place);
                    cut++;
                }
            }
            tokens[cut] = END;
            starts[cut] = size;
        }

        /** Where the token that begins at a place ends. */
        private int cutToken(int cut, int place) {
            int end = place + 1;
            starts[cut] = place;
            if (isLetter(bytes[place])) {
                while (end < size && isLetter(bytes[end])) {
                    end++;
                }
                tokens[cut] = WORD;
                values[cut] = wordAt(place, end);
            } else if (isDigit(bytes[place])) {
                while (end < size && isDigit(bytes[end])) {
                    end++;
                }
                tokens[cut] = NUMBER;
                values[cut] = numberAt(place, end);
            } else {
                tokens[cut] = bytes[place] == ';' ? SIGN : NO_TOKEN;
            }
            return end;
        }

        private int wordAt(int start, int end) {
            int word = 0;
            while (word < OTHER_WORD && !isSpelt(wordOf(word), start, end)) {
                word++;
            }
            return word;
        }

        private int numberAt(int start, int end) {
            int all = 0;
            for (int k = start; k < end; k++) {
                all = Math.min(all * 10 + (bytes[k] - '0'), ABOVE_ALL_NUMBERS);
            }
            return all;
        }

        private boolean isSpelt(String word, int start, int end) {
            if (end - start != word.length()) {
                return false;
            }
            for (int k = start; k < end; k++) {
                if (bytes[k] != word.charAt(k - start)) {
                    return false;
                }
            }
            return true;
        }

        private static String wordOf(int word) {
            switch (word) {
                case THING:
                    return "thing";
                case WASH:
                    return "wash";
                case RIDER:
                    return "rider";
                case GUEST:
                    return "guest";
                case SHEET:
                    return "sheet";
                case THIEF:
                    return "thief";
                case BEAM_WORD:
                    return "beam";
                case SPEED_WORD:
                    return "speed";
                case THICK_WORD:
                    return "thick";
                case OUT_WORD:
                    return "out";
                case WET_WORD:
                    return "wet";
                case GOAL_WORD:
                    return "goal";
                default:
                    return "";
            }
        }

        private static boolean isLetter(int b) {
            return b >= 'a' && b <= 'z';
        }

        private static boolean isDigit(int b) {
            return b >= '0' && b <= '9';
        }
    }

    /** A row of numbers of 8, 16 or 64 bits with their signs; 0 bits: it is missing. */
    private static final class Sheet {
        int bits = 0;
        int size = 0;
        final long[] numbers = new long[MOST_NUMBERS];

        void renew(int newBits, int n) {
            bits = newBits;
            size = newBits == 0 ? 0 : n;
            for (int i = 0; i < size; i++) {
                numbers[i] = 0;
            }
        }

        void put(int i, long v) {
            if (bits == 8) {
                numbers[i] = (byte) v;
            } else if (bits == 16) {
                numbers[i] = (short) v;
            } else {
                numbers[i] = v;
            }
        }

        boolean hasNumbers(int from, int n) {
            return from >= 0 && n >= 0 && from <= size && n <= size - from;
        }
    }
}
