import java.util.Arrays;

/** A single line, the trains that run on it, and what may be let go without shutting the others in. */
public final class LineDispatch {
    public static final int BAD = -1, STATE = -2, FULL = -3, NONE = -4;

    private static final int MOST_PLACES = 6, MOST_TRACKS = 3, MOST_TRAINS = 4, MOST_ENTRIES = 60;
    private static final int LONGEST = 20, MOST_MINUTES = 9, MOST_TICKS = 60, MOST_DRAWN = 8;
    private static final int TAPE_ROOM = 160, LAST_BYTE = 127;
    private static final int IMAGES = 2, SHEETS = 4, LANES = 3, RULES = 3, MOST_CELLS = 40, MOST_READ = 10;
    private static final int AT = 0, RUNS = 1, DONE = 2;
    private static final int FAULT_NULL = 1, FAULT_INDEX = 2, FAULT_CAST = 3, FAULT_SIZE = 4;

    private final Line line = new Line();
    private final Line spare = new Line();
    private final Line[] images = new Line[IMAGES];
    private final boolean[] kept = new boolean[IMAGES];
    private final Sheet[] sheets = new Sheet[SHEETS];
    private final Postures postures = new Postures();
    private final Reader reader = new Reader();
    private int latestTorn;

    public LineDispatch() {
        for (int k = 0; k < IMAGES; k++) {
            images[k] = new Line();
        }
        for (int k = 0; k < SHEETS; k++) {
            sheets[k] = new Sheet();
        }
    }

    // ---- the text

    public int feed(int c) {
        if (c < 0 || c > LAST_BYTE) {
            return BAD;
        }
        if (reader.size >= TAPE_ROOM) {
            return FULL;
        }
        reader.tape[reader.size] = (byte) c;
        reader.size++;
        return reader.size;
    }

    public int end(int n) {
        if (n < 0 || n > reader.size) {
            return BAD;
        }
        int had = reader.size;
        reader.size = n;
        return had;
    }

    public int text() {
        int lines = reader.readInto(spare);
        if (reader.fault == 0) {
            reader.failBehindAll(faultBehindAll(spare));
        }
        postures.forget();
        reader.size = 0;
        if (reader.fault != 0) {
            return -10 - reader.faultAt;
        }
        line.copyFrom(spare);
        for (int k = 0; k < IMAGES; k++) {
            kept[k] = false;
        }
        return lines;
    }

    public int fault() {
        return reader.fault;
    }

    public int rule(int what) {
        switch (what) {
            case 0: return line.places;
            case 1: return line.trains;
            case 2: return line.clock;
            case 3: return line.howMany(RUNS);
            case 4: return line.howMany(DONE);
            case 5: return line.entries;
            case 6: return isPlain() ? 1 : 0;
            case 7: return line.stepsLeft();
            case 8: return howManyFree();
            default: return BAD;
        }
    }

    public int place(int p, int what) {
        if (!line.hasPlace(p)) {
            return BAD;
        }
        switch (what) {
            case 0: return line.tracks[p];
            case 1: case 2: case 3:
                return what > line.tracks[p] ? NONE : line.lengths[p * MOST_TRACKS + what - 1];
            case 4: return line.howManyThere(p);
            case 5: return p == line.places - 1 ? NONE : line.minutes[p];
            default: return BAD;
        }
    }

    public int train(int t, int what) {
        if (!line.hasTrain(t)) {
            return BAD;
        }
        switch (what) {
            case 0: return line.from[t];
            case 1: return line.to[t];
            case 2: return line.size[t];
            case 3: return line.left[t] == 0 ? NONE : line.spot(t, line.left[t]);
            case 4: return line.status[t];
            case 5: return line.status[t] == AT ? NONE : line.when[t];
            case 6: return line.minutesLeft(t);
            default: return BAD;
        }
    }

    // ---- what could be

    public int why(int t) {
        if (!line.hasTrain(t)) {
            return BAD;
        }
        postures.learn(line);
        return against(line, t);
    }

    public int who(int t) {
        if (!line.hasTrain(t)) {
            return BAD;
        }
        postures.learn(line);
        switch (against(line, t)) {
            case 3: return line.runnerIn(line.sectionAhead(t, line.left[t]));
            case 4: return postures.firstAhead(line, t);
            case 5: return postures.firstLostBehind(line, t);
            default: return NONE;
        }
    }

    public int order(int i) {
        if (i < 0) {
            return BAD;
        }
        postures.learnRooms(line);
        return i < postures.goOneByOne(line) ? postures.row[i] : NONE;
    }

    public int reach(int what) {
        if (what < 0 || what > 1) {
            return BAD;
        }
        postures.learn(line);
        return postures.reached(line, what == 1);
    }

    public int plan(int rule, int what) {
        if (!isRule(rule) || what < 0 || what > 1) {
            return BAD;
        }
        return planned(rule, what == 1);
    }

    public int best() {
        if (line.trains == 0) {
            return NONE;
        }
        int found = 0;
        int least = planned(0, true);
        for (int rule = 1; rule < RULES; rule++) {
            int sum = planned(rule, true);
            if (sum < least) {
                least = sum;
                found = rule;
            }
        }
        return found;
    }

    // ---- what is done

    public int let(int t) {
        if (!line.hasTrain(t)) {
            return BAD;
        }
        postures.learn(line);
        if (against(line, t) != 0) {
            return STATE;
        }
        line.depart(t);
        return line.when[t];
    }

    public int tick(int n) {
        if (n < 1 || n > MOST_TICKS) {
            return BAD;
        }
        return line.passTime(n);
    }

    public int send(int rule) {
        if (!isRule(rule)) {
            return BAD;
        }
        postures.learn(line);
        return letAllGo(line, rule);
    }

    public int journal(int i, int what) {
        if (i < 0 || what < 0 || what > 2) {
            return BAD;
        }
        if (i >= line.entries) {
            return NONE;
        }
        switch (what) {
            case 0: return line.entryMinute[i];
            case 1: return line.entryTrain[i];
            default: return line.entryPlace[i];
        }
    }

    public int add(int from, int to, int length) {
        if (!line.hasPlace(from) || !line.hasPlace(to) || from == to || length < 1 || length > LONGEST) {
            return BAD;
        }
        if (line.trains >= MOST_TRAINS) {
            return FULL;
        }
        line.openTrain(from, to, length);
        postures.forget();
        postures.learnRooms(line);
        if (postures.holdsAll(line)) {
            postures.learn(line);
            if (postures.isSafe()) {
                return line.trains;
            }
        }
        line.trains--;
        postures.forget();
        return STATE;
    }

    public int drop(int t) {
        if (!line.hasTrain(t)) {
            return BAD;
        }
        if (line.status[t] == RUNS) {
            return STATE;
        }
        line.removeTrain(t);
        postures.forget();
        return line.trains;
    }

    public int draw(int seed, int n) {
        if (n < 1 || n > MOST_DRAWN) {
            return BAD;
        }
        if (line.places < 1) {
            return STATE;
        }
        int came = 0;
        int next = seed;
        for (int i = 0; i < n; i++) {
            next = next * 1103515245 + 12345;
            int got = (next >>> 16) & 0x7FFF;
            if (add(got % line.places, got / 8 % line.places, got / 64 % 6 + 1) > 0) {
                came++;
            }
        }
        return came;
    }

    // ---- images, sheets

    public int keep(int k) {
        if (!isImage(k)) {
            return BAD;
        }
        int before = kept[k] ? 1 : 0;
        images[k].copyFrom(line);
        kept[k] = true;
        return before;
    }

    public int back(int k) {
        if (!isImage(k)) {
            return BAD;
        }
        if (!kept[k]) {
            return STATE;
        }
        line.copyFrom(images[k]);
        postures.forget();
        return line.trains;
    }

    public int sheet(int k, int lane, int n) {
        if (!isSheet(k) || !isLane(lane) || n > MOST_CELLS) {
            return BAD;
        }
        if (n < 0) {
            return -10 - FAULT_SIZE;
        }
        sheets[k].renew(lane, n);
        return 1;
    }

    public int lay(int k, int i, int v) {
        if (!isSheet(k)) {
            return BAD;
        }
        int fault = sheets[k].faultOfCell(i);
        if (fault != 0) {
            return -10 - fault;
        }
        sheets[k].put(i, v);
        return 1;
    }

    public int read(int k, int lane, int f, int n) {
        if (!isSheet(k) || !isLane(lane) || n < 0 || n > MOST_READ) {
            return BAD;
        }
        int before = line.trains;
        int[] cells = sheets[k].cells;
        for (int i = 0; i < n; i++) {
            int first = f + 3 * i;
            int fault = sheets[k].faultOfThree(lane, first);
            if (fault != 0) {
                latestTorn = fault;
                return i;
            }
            if (add(cells[first], cells[first + 1], cells[first + 2]) < 0) {
                line.trains = before;
                postures.forget();
                return -20 - i;
            }
        }
        latestTorn = 0;
        return n;
    }

    public int torn() {
        return latestTorn;
    }

    public int count(int what) {
        switch (what) {
            case 0: return (kept[0] ? 1 : 0) + (kept[1] ? 1 : 0);
            case 1: return sum(line.tracks, line.places);
            case 2: return reader.size;
            case 3: return sheets[0].size < 0 ? NONE : sheets[0].size;
            case 4: return sum(line.size, line.trains);
            case 5: return sum(line.minutes, line.places - 1);
            default: return BAD;
        }
    }

    private static boolean isRule(int rule) {
        return rule >= 0 && rule < RULES;
    }

    private static boolean isImage(int k) {
        return k >= 0 && k < IMAGES;
    }

    private static boolean isSheet(int k) {
        return k >= 0 && k < SHEETS;
    }

    private static boolean isLane(int lane) {
        return lane >= 0 && lane < LANES;
    }

    private static int sum(int[] row, int n) {
        int all = 0;
        for (int i = 0; i < n && i < row.length; i++) {
            all += row[i];
        }
        return all;
    }

    private int faultBehindAll(Line told) {
        if (!told.hasAllToldPlaces()) {
            return 6;
        }
        postures.forget();
        postures.learn(told);
        if (!postures.holdsAll(told)) {
            return 7;
        }
        return postures.isSafe() ? 0 : 8;
    }

    private boolean isPlain() {
        postures.learnRooms(line);
        int due = 0;
        for (int t = 0; t < line.trains; t++) {
            due += line.left[t] > 0 ? 1 : 0;
        }
        return postures.goOneByOne(line) == due;
    }

    /** What stands against a TRAIN; the POSTURE as it is must be looked at. */
    private int against(Line on, int t) {
        if (on.status[t] != AT) {
            return on.status[t] == DONE ? 1 : 2;
        }
        if (on.runnerIn(on.sectionAhead(t, on.left[t])) >= 0) {
            return 3;
        }
        if (!postures.canStep(on, t)) {
            return 4;
        }
        return postures.isSafeBehind(t) ? 0 : 5;
    }

    private int letAllGo(Line on, int rule) {
        int n = 0;
        for (int i = 0; i < on.trains; i++) {
            int t = firstBy(on, rule);
            if (t < 0) {
                return n;
            }
            on.depart(t);
            postures.look(on);
            n++;
        }
        return n;
    }

    private int firstBy(Line on, int rule) {
        int first = NONE;
        for (int t = 0; t < on.trains; t++) {
            if (against(on, t) == 0 && (first < 0 || isAhead(on, rule, t, first))) {
                first = t;
            }
        }
        return first;
    }

    private static boolean isAhead(Line on, int rule, int t, int other) {
        if (rule == 0) {
            return t < other;
        }
        int mine = on.minutesLeft(t);
        int others = on.minutesLeft(other);
        return rule == 1 ? mine < others : mine > others;
    }

    private int howManyFree() {
        postures.learn(line);
        int free = 0;
        for (int t = 0; t < line.trains; t++) {
            free += against(line, t) == 0 ? 1 : 0;
        }
        return free;
    }

    private int planned(int rule, boolean summed) {
        postures.learn(line);
        spare.copyFrom(line);
        // between two arrivals nothing changes that stands against a TRAIN, so those MINUTES are skipped
        for (int arrivals = 0; arrivals <= MOST_TRAINS * MOST_PLACES; arrivals++) {
            letAllGo(spare, rule);
            int wait = spare.waitForNext();
            if (wait <= 0) {
                break;
            }
            spare.passTime(wait);
        }
        return summed ? sum(spare.when, spare.trains) : spare.latestEnd();
    }

    /** All that an IMAGE keeps: PLACES, TRAINS, CLOCK, THE JOURNAL. */
    private static final class Line {
        int places;
        final int[] tracks = new int[MOST_PLACES];
        final int[] lengths = new int[MOST_PLACES * MOST_TRACKS];
        final int[] minutes = new int[MOST_PLACES];
        int trains;
        final int[] from = new int[MOST_TRAINS];
        final int[] to = new int[MOST_TRAINS];
        final int[] size = new int[MOST_TRAINS];
        // how many PLACES a TRAIN has still to come nearer in the POSTURE: 0 is DONE there, though it may RUN
        final int[] left = new int[MOST_TRAINS];
        final int[] status = new int[MOST_TRAINS];
        final int[] when = new int[MOST_TRAINS];
        int clock;
        int entries;
        final int[] entryMinute = new int[MOST_ENTRIES];
        final int[] entryTrain = new int[MOST_ENTRIES];
        final int[] entryPlace = new int[MOST_ENTRIES];

        void copyFrom(Line other) {
            places = other.places;
            System.arraycopy(other.tracks, 0, tracks, 0, MOST_PLACES);
            System.arraycopy(other.lengths, 0, lengths, 0, MOST_PLACES * MOST_TRACKS);
            System.arraycopy(other.minutes, 0, minutes, 0, MOST_PLACES);
            trains = other.trains;
            System.arraycopy(other.from, 0, from, 0, MOST_TRAINS);
            System.arraycopy(other.to, 0, to, 0, MOST_TRAINS);
            System.arraycopy(other.size, 0, size, 0, MOST_TRAINS);
            System.arraycopy(other.left, 0, left, 0, MOST_TRAINS);
            System.arraycopy(other.status, 0, status, 0, MOST_TRAINS);
            System.arraycopy(other.when, 0, when, 0, MOST_TRAINS);
            clock = other.clock;
            entries = other.entries;
            System.arraycopy(other.entryMinute, 0, entryMinute, 0, MOST_ENTRIES);
            System.arraycopy(other.entryTrain, 0, entryTrain, 0, MOST_ENTRIES);
            System.arraycopy(other.entryPlace, 0, entryPlace, 0, MOST_ENTRIES);
        }

        void clearAll() {
            places = 0;
            trains = 0;
            clock = 0;
            entries = 0;
        }

        boolean hasPlace(int p) {
            return p >= 0 && p < places;
        }

        boolean hasTrain(int t) {
            return t >= 0 && t < trains;
        }

        boolean hasAllToldPlaces() {
            for (int t = 0; t < trains; t++) {
                if (from[t] >= places || to[t] >= places) {
                    return false;
                }
            }
            return true;
        }

        void openPlace() {
            if (places < MOST_PLACES) {
                tracks[places] = 0;
                minutes[places] = 1;
                places++;
            }
        }

        /** A TRACK more of the latest PLACE, the longest first. */
        void openTrack(int length) {
            int p = places - 1;
            if (p < 0 || tracks[p] >= MOST_TRACKS) {
                return;
            }
            int base = p * MOST_TRACKS;
            int i = base + tracks[p];
            for (; i > base && lengths[i - 1] < length; i--) {
                lengths[i] = lengths[i - 1];
            }
            lengths[i] = length;
            tracks[p]++;
        }

        void openTrain(int start, int goal, int length) {
            if (trains < MOST_TRAINS) {
                from[trains] = start;
                to[trains] = goal;
                size[trains] = length;
                left[trains] = Math.abs(goal - start);
                status[trains] = AT;
                when[trains] = 0;
                trains++;
            }
        }

        void removeTrain(int t) {
            for (int i = t; i < trains - 1; i++) {
                from[i] = from[i + 1];
                to[i] = to[i + 1];
                size[i] = size[i + 1];
                left[i] = left[i + 1];
                status[i] = status[i + 1];
                when[i] = when[i + 1];
            }
            trains--;
            removeEntries(t);
        }

        private void removeEntries(int t) {
            int stay = 0;
            for (int i = 0; i < entries; i++) {
                if (entryTrain[i] != t) {
                    entryMinute[stay] = entryMinute[i];
                    entryTrain[stay] = entryTrain[i] > t ? entryTrain[i] - 1 : entryTrain[i];
                    entryPlace[stay] = entryPlace[i];
                    stay++;
                }
            }
            entries = stay;
        }

        int howMany(int wanted) {
            int n = 0;
            for (int t = 0; t < trains; t++) {
                n += status[t] == wanted ? 1 : 0;
            }
            return n;
        }

        int howManyThere(int p) {
            int n = 0;
            for (int t = 0; t < trains; t++) {
                n += left[t] > 0 && spot(t, left[t]) == p ? 1 : 0;
            }
            return n;
        }

        int stepsLeft() {
            int n = 0;
            for (int t = 0; t < trains; t++) {
                n += left[t];
            }
            return n;
        }

        /** The PLACE from which a TRAIN has so many PLACES still to come nearer. */
        int spot(int t, int steps) {
            return to[t] > from[t] ? to[t] - steps : to[t] + steps;
        }

        /** The SECTION by which a TRAIN leaves the PLACE from which it has so many to come nearer. */
        int sectionAhead(int t, int steps) {
            return to[t] > from[t] ? to[t] - steps : to[t] + steps - 1;
        }

        int minutesLeft(int t) {
            int sum = 0;
            for (int steps = left[t]; steps > 0; steps--) {
                sum += minutes[sectionAhead(t, steps)];
            }
            return sum;
        }

        int runnerIn(int section) {
            for (int t = 0; t < trains; t++) {
                if (status[t] == RUNS && sectionAhead(t, left[t] + 1) == section) {
                    return t;
                }
            }
            return NONE;
        }

        void depart(int t) {
            if (left[t] < 1) {
                return;
            }
            enterJournal(t, spot(t, left[t]));
            when[t] = clock + minutes[sectionAhead(t, left[t])];
            left[t]--;
            status[t] = RUNS;
        }

        private void enterJournal(int t, int p) {
            if (entries >= MOST_ENTRIES) {
                forgetFirstEntry();
            }
            int i = entries;
            for (; i > 0 && entryMinute[i - 1] == clock && entryTrain[i - 1] > t; i--) {
                entryMinute[i] = entryMinute[i - 1];
                entryTrain[i] = entryTrain[i - 1];
                entryPlace[i] = entryPlace[i - 1];
            }
            entryMinute[i] = clock;
            entryTrain[i] = t;
            entryPlace[i] = p;
            entries++;
        }

        private void forgetFirstEntry() {
            entries--;
            System.arraycopy(entryMinute, 1, entryMinute, 0, entries);
            System.arraycopy(entryTrain, 1, entryTrain, 0, entries);
            System.arraycopy(entryPlace, 1, entryPlace, 0, entries);
        }

        int passTime(int n) {
            clock += n;
            int came = 0;
            for (int t = 0; t < trains; t++) {
                if (status[t] == RUNS && when[t] <= clock) {
                    status[t] = left[t] == 0 ? DONE : AT;
                    came++;
                }
            }
            return came;
        }

        int latestEnd() {
            int latest = 0;
            for (int t = 0; t < trains; t++) {
                latest = Math.max(latest, when[t]);
            }
            return latest;
        }

        /** How many MINUTES till the next TRAIN comes; 0: none RUNS. */
        int waitForNext() {
            int wait = 0;
            for (int t = 0; t < trains; t++) {
                if (status[t] == RUNS && (wait == 0 || when[t] - clock < wait)) {
                    wait = when[t] - clock;
                }
            }
            return wait;
        }
    }

    /**
     * What MOVES a POSTURE has. What was learned holds until PLACES or TRAINS change otherwise than by MOVES,
     * since MOVES only come to POSTURES below the one that was learned.
     */
    private static final class Postures {
        // a POSTURE's number: how far each TRAIN has still to go, as figures of base 6
        private static final int[] UNIT = {1, 6, 36, 216};
        private static final int BASE = 6, ALL = 1296, MASKS = 16, SAFE = 16;

        private final boolean[] rooms = new boolean[MOST_PLACES * MASKS];
        // of each POSTURE a bit for each TRAIN that some row of MOVES brings to its end, and SAFE
        private final int[] ends = new int[ALL];
        private final byte[] seen = new byte[ALL];
        private final int[] left = new int[MOST_TRAINS];
        private final int[] there = new int[MOST_PLACES];
        final int[] row = new int[MOST_TRAINS];
        private boolean roomsKnown;
        private boolean endsKnown;

        void forget() {
            roomsKnown = false;
            endsKnown = false;
        }

        void learnRooms(Line line) {
            if (roomsKnown) {
                return;
            }
            for (int p = 0; p < line.places; p++) {
                for (int mask = 0; mask < 1 << line.trains; mask++) {
                    rooms[p * MASKS + mask] = fits(line, p, mask);
                }
            }
            roomsKnown = true;
        }

        /** Enough TRACKS for each TRAIN and all that are as long: then, and only then, there is one for each. */
        private static boolean fits(Line line, int p, int mask) {
            for (int t = 0; t < line.trains; t++) {
                if ((mask >> t & 1) == 1 && tracksFor(line, p, line.size[t]) < trainsOf(line, mask, line.size[t])) {
                    return false;
                }
            }
            return true;
        }

        private static int tracksFor(Line line, int p, int length) {
            int n = 0;
            for (int i = 0; i < line.tracks[p]; i++) {
                n += line.lengths[p * MOST_TRACKS + i] >= length ? 1 : 0;
            }
            return n;
        }

        private static int trainsOf(Line line, int mask, int length) {
            int n = 0;
            for (int t = 0; t < line.trains; t++) {
                n += (mask >> t & 1) == 1 && line.size[t] >= length ? 1 : 0;
            }
            return n;
        }

        /** What is learned is of all POSTURES that can come; the one as it is is then looked at. */
        void learn(Line line) {
            learnRooms(line);
            if (!endsKnown) {
                learnEnds(line);
            }
            look(line);
        }

        private void learnEnds(Line line) {
            int a = highest(line, 0);
            int b = highest(line, 1);
            int c = highest(line, 2);
            int d = highest(line, 3);
            for (int l = 0; l <= d; l++) {
                left[3] = l;
                for (int k = 0; k <= c; k++) {
                    left[2] = k;
                    for (int j = 0; j <= b; j++) {
                        left[1] = j;
                        for (int i = 0; i <= a; i++) {
                            left[0] = i;
                            learnOne(line);
                        }
                    }
                }
            }
            endsKnown = true;
        }

        private static int highest(Line line, int t) {
            return t < line.trains ? line.left[t] : 0;
        }

        /** Every MOVE comes to a POSTURE of a lower number, which was learned before. */
        private void learnOne(Line line) {
            placeAll(line);
            int code = code();
            int bits = code == 0 ? SAFE : 0;
            for (int t = 0; t < line.trains; t++) {
                if (left[t] == 0) {
                    bits |= 1 << t;
                } else if (canStep(line, t)) {
                    bits |= ends[code - UNIT[t]];
                }
            }
            ends[code] = bits;
        }

        private int code() {
            return left[0] + BASE * (left[1] + BASE * (left[2] + BASE * left[3]));
        }

        private void placeAll(Line line) {
            Arrays.fill(there, 0);
            for (int t = 0; t < line.trains; t++) {
                if (left[t] > 0) {
                    there[line.spot(t, left[t])] |= 1 << t;
                }
            }
        }

        /** From here on the questions are asked of the POSTURE as it is. */
        void look(Line line) {
            for (int t = 0; t < MOST_TRAINS; t++) {
                left[t] = highest(line, t);
            }
            placeAll(line);
        }

        boolean canStep(Line line, int t) {
            if (left[t] < 2) {
                return left[t] == 1;
            }
            int next = line.spot(t, left[t] - 1);
            return rooms[next * MASKS + (there[next] | 1 << t)];
        }

        /** What can still come about behind a step of this TRAIN, which must have one. */
        private int endsBehind(int t) {
            return left[t] > 0 ? ends[code() - UNIT[t]] : 0;
        }

        boolean isSafeBehind(int t) {
            return (endsBehind(t) & SAFE) != 0;
        }

        int firstLostBehind(Line line, int t) {
            int bits = endsBehind(t);
            for (int u = 0; u < line.trains; u++) {
                if ((bits >> u & 1) == 0) {
                    return u;
                }
            }
            return NONE;
        }

        int firstAhead(Line line, int t) {
            int next = line.spot(t, left[t] - 1);
            for (int u = 0; u < line.trains; u++) {
                if (left[u] > 0 && line.spot(u, left[u]) == next) {
                    return u;
                }
            }
            return NONE;
        }

        boolean holdsAll(Line line) {
            look(line);
            for (int p = 0; p < line.places; p++) {
                if (!rooms[p * MASKS + there[p]]) {
                    return false;
                }
            }
            return true;
        }

        boolean isSafe() {
            return (ends[code()] & SAFE) != 0;
        }

        int reached(Line line, boolean safeOnly) {
            Arrays.fill(seen, (byte) 0);
            look(line);
            int top = code();
            seen[top] = 1;
            int n = 0;
            for (int code = top; code >= 0; code--) {
                if (seen[code] != 0) {
                    n += !safeOnly || (ends[code] & SAFE) != 0 ? 1 : 0;
                    markNext(line, code);
                }
            }
            return n;
        }

        private void markNext(Line line, int code) {
            for (int t = 0; t < MOST_TRAINS; t++) {
                left[t] = code / UNIT[t] % BASE;
            }
            placeAll(line);
            for (int t = 0; t < line.trains; t++) {
                if (canStep(line, t)) {
                    seen[code - UNIT[t]] = 1;
                }
            }
        }

        /** How many can be DONE one by one; who they are stands in row. */
        int goOneByOne(Line line) {
            look(line);
            int n = 0;
            for (int i = 0; i < line.trains; i++) {
                int t = firstToGoAlone(line);
                if (t < 0) {
                    return n;
                }
                row[n] = t;
                n++;
            }
            return n;
        }

        private int firstToGoAlone(Line line) {
            for (int t = 0; t < line.trains; t++) {
                if (left[t] > 0 && goesAlone(line, t)) {
                    return t;
                }
            }
            return NONE;
        }

        /** A TRAIN that can not come to its end is put back to where it was. */
        private boolean goesAlone(Line line, int t) {
            int start = left[t];
            for (int i = 0; i < start && canStep(line, t); i++) {
                left[t]--;
            }
            boolean came = left[t] == 0;
            if (!came) {
                left[t] = start;
            }
            placeAll(line);
            return came;
        }
    }

    /** THE TAPE, and the reading of it TOKEN by TOKEN. */
    private static final class Reader {
        private static final int END = 0, NAME = 1, NUMBER = 2, SIGN = 3, NO_TOKEN = 4;

        final byte[] tape = new byte[TAPE_ROOM];
        int size;
        int fault;
        int faultAt;
        private int next;
        private int start;
        private int kind;
        private int value;

        /** How many lines were read, up to the first FAULT. */
        int readInto(Line told) {
            told.clearAll();
            fault = 0;
            faultAt = 0;
            next = 0;
            int lines = 0;
            for (int i = 0; i <= TAPE_ROOM; i++) {
                if (!takeToken() || kind == END || !takeLine(told)) {
                    return lines;
                }
                lines++;
            }
            return lines;
        }

        void failBehindAll(int what) {
            fault = what;
            faultAt = size;
        }

        private boolean fail(int what) {
            fault = what;
            faultAt = start;
            return false;
        }

        private boolean takeLine(Line told) {
            if (isWord("place")) {
                return takePlace(told);
            }
            if (isWord("section")) {
                return takeSection(told);
            }
            if (isWord("train")) {
                return takeTrain(told);
            }
            return fail(2);
        }

        private boolean takePlace(Line told) {
            if (told.places >= MOST_PLACES) {
                return fail(5);
            }
            told.openPlace();
            for (int i = 0; i < MOST_TRACKS; i++) {
                if (!takeToken()) {
                    return false;
                }
                if (i > 0 && kind == SIGN) {
                    return true;
                }
                if (!isNumberWithin(1, LONGEST)) {
                    return false;
                }
                told.openTrack(value);
            }
            return takeSign();
        }

        private boolean takeSection(Line told) {
            if (told.places < 1) {
                return fail(5);
            }
            if (!takeNumber(1, MOST_MINUTES)) {
                return false;
            }
            told.minutes[told.places - 1] = value;
            return takeSign();
        }

        private boolean takeTrain(Line told) {
            if (told.trains >= MOST_TRAINS) {
                return fail(5);
            }
            if (!takeNumber(0, MOST_PLACES - 1)) {
                return false;
            }
            int from = value;
            if (!takeNumber(0, MOST_PLACES - 1)) {
                return false;
            }
            int to = value;
            if (to == from) {
                return fail(4);
            }
            if (!takeNumber(1, LONGEST)) {
                return false;
            }
            told.openTrain(from, to, value);
            return takeSign();
        }

        private boolean takeNumber(int low, int high) {
            return takeToken() && isNumberWithin(low, high);
        }

        private boolean isNumberWithin(int low, int high) {
            if (kind != NUMBER) {
                return fail(2);
            }
            value = 0;
            for (int i = start; i < next; i++) {
                value = value * 10 + tape[i] - '0';
            }
            return value >= low && value <= high || fail(3);
        }

        private boolean takeSign() {
            return takeToken() && (kind == SIGN || fail(2));
        }

        private boolean takeToken() {
            while (next < size && tape[next] == ' ') {
                next++;
            }
            start = next;
            if (next >= size) {
                kind = END;
                return true;
            }
            kind = kindOf(tape[next]);
            next++;
            boolean longer = kind == NAME || kind == NUMBER;
            while (longer && next < size && kindOf(tape[next]) == kind) {
                next++;
            }
            boolean tooLong = kind == NUMBER && next - start > 2;
            return kind != NO_TOKEN && !tooLong || fail(1);
        }

        private static int kindOf(int c) {
            if (c >= 'a' && c <= 'z') {
                return NAME;
            }
            if (c >= '0' && c <= '9') {
                return NUMBER;
            }
            return c == ';' ? SIGN : NO_TOKEN;
        }

        private boolean isWord(String word) {
            if (kind != NAME || next - start != word.length()) {
                return false;
            }
            for (int i = 0; i < word.length(); i++) {
                if (tape[start + i] != word.charAt(i)) {
                    return false;
                }
            }
            return true;
        }
    }

    /** A row of CELLS of a lane; with a size below 0 it is nothing. */
    private static final class Sheet {
        int size = -1;
        final int[] cells = new int[MOST_CELLS];
        private int lane;

        void renew(int newLane, int n) {
            lane = newLane;
            size = n;
            Arrays.fill(cells, 0);
        }

        int faultOfCell(int i) {
            if (size < 0) {
                return FAULT_NULL;
            }
            return i < 0 || i >= size ? FAULT_INDEX : 0;
        }

        /** Nothing is of every lane, so NULL is found ahead of CAST. */
        int faultOfThree(int asLane, int first) {
            if (size < 0) {
                return FAULT_NULL;
            }
            if (asLane != lane) {
                return FAULT_CAST;
            }
            return first < 0 || first > size - 3 ? FAULT_INDEX : 0;
        }

        void put(int i, int v) {
            switch (lane) {
                case 0:
                    cells[i] = (byte) v;
                    break;
                case 1:
                    cells[i] = (short) v;
                    break;
                default:
                    cells[i] = v;
                    break;
            }
        }
    }
}
