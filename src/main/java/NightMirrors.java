import java.util.Arrays;

/** Looking glasses that work nights. The document's numbered promises say what each call answers. */
public final class NightMirrors {
    public static final int NONE = -1;

    private static final int BAD_NUMBER = -1;
    private static final int NO_SUCH = -2;
    private static final int CANT_BE = -3;
    private static final int NO_ROOM = -5;
    private static final int BAD_TEXT = -6;

    private static final int MIRRORS = 6;
    private static final int PARTS = 8;
    private static final int HOURS = 8;
    private static final int SAW = 5;
    private static final int SILVER = 30;
    private static final int STOCK = 99;
    private static final int CLOCK = 3;
    private static final int HEARD = 8;
    private static final int LAWS = 6;
    private static final int IMAGES = 2;
    private static final int UNDONE = 16;
    private static final int TAPE = 400;
    private static final int LAST_NIGHT = 999;
    private static final int LONGEST = 60;
    private static final int TILL = 30;
    private static final int LARGEST_SEED = 1000000;
    private static final long CERTAIN = 1000000000000L;

    // The kinds of a law's clauses; the last one has no sum.
    private static final int MAKES = 0;
    private static final int WEARS = 1;
    private static final int PAYS = 2;
    private static final int BARS = 3;

    // The kinds of orders, as undo() tells them too; the last one has no sum.
    private static final int HANG = 0;
    private static final int DOWN = 1;
    private static final int POLISH = 2;
    private static final int PASS = 3;

    private static final int WITHOUT_SUM = 3;

    // No sum that stands goes so far, so it can say that one is broken.
    private static final int BROKEN = Integer.MIN_VALUE;

    private final State state = new State();
    private final State[] images = new State[IMAGES];
    private final boolean[] kept = new boolean[IMAGES];
    private final Asker asker = new Asker(state);
    private final Paper paper = new Paper(state, asker);
    private final Reader reader = new Reader();
    private final Undone undone = new Undone();
    private final Undone undoneAhead = new Undone();
    private final Works ahead = new Works();
    private final Works ordersAhead = new Works();
    private final Works sheet = new Works();
    private final Works year = new Works();
    private final int[] refused = new int[5];
    private final long[] chances = new long[SILVER + 1];
    private int yearMirrors = NONE;
    private int screwCount;
    private int faultAt = NONE;
    private int stoppedAt = NONE;
    private int refusedBy;

    public NightMirrors() {
        for (int k = 0; k < IMAGES; k++) {
            images[k] = new State();
        }
    }

    public int mirror(int saw, int bend, int silver) {
        int length = partsIn(saw);
        if (length == 0 || bend < 0 || bend > 7 || silver < 1 || silver > SILVER) {
            return refuse(BAD_NUMBER);
        }
        if (state.mirrors >= MIRRORS) {
            return refuse(NO_ROOM);
        }
        int number = state.mirrors;
        state.addMirror(saw, length, bend, silver);
        undone.size = 0;
        return fine(number);
    }

    public int of(int mirror, int what) {
        if (!isMirror(mirror)) {
            return NONE;
        }
        switch (what) {
            case 0: return state.length[mirror];
            case 1: return state.bend[mirror];
            case 2: return state.works.silver[mirror];
            case 3: return state.works.placeOf(mirror);
            case 4: return asker.wear(state.works, mirror, state.works.placeOf(mirror));
            default: break;
        }
        int k = what - 5;
        return what >= 5 && k < state.length[mirror] ? state.saw[mirror * SAW + k] : NONE;
    }

    public int at(int place) {
        return place >= 0 && place < state.works.hung ? state.works.line[place] : NONE;
    }

    public int asks(int mirror, int place, int hour, int what) {
        if (!isMirror(mirror) || place < 0 || place >= MIRRORS || !isHour(hour)) {
            return NONE;
        }
        if (what == 1) {
            return asker.isBarred(state.works, mirror, place) ? 1 : 0;
        }
        if (what != 0 || hour <= place) {
            return NONE;
        }
        int seen = state.seen(mirror, place, hour);
        return asker.madeOf(state.works, state.inForce(), mirror, place, hour, seen);
    }

    public int crack(int one, int other, int is) {
        if (one == other || is < 0 || is > 1) {
            return refuse(BAD_NUMBER);
        }
        if (!isMirror(one) || !isMirror(other)) {
            return refuse(NO_SUCH);
        }
        int was = state.cracks[one] >> other & 1;
        state.setCrack(one, other, is);
        return fine(was);
    }

    public int part(int part, int what) {
        if (!isPart(part)) {
            return NONE;
        }
        switch (what) {
            case 0: return state.works.stock[part];
            case 1: return state.clock[part];
            case 2: return asker.pay(state.works, state.inForce(), part);
            default: return NONE;
        }
    }

    public int clock(int part, int n) {
        if (!isPart(part) || n < 0 || n > CLOCK) {
            return refuse(BAD_NUMBER);
        }
        int was = state.clock[part];
        state.clock[part] = n;
        return fine(was);
    }

    public int terms(int what, int value) {
        int was = state.term(what);
        if (was == NONE || !state.setTerm(what, value)) {
            return refuse(BAD_NUMBER);
        }
        undone.size = 0;
        return fine(was);
    }

    public int feed(int a, int b, int c, int d, int e) {
        if (reader.length + 20 > TAPE) {
            return NONE;
        }
        reader.put(a);
        reader.put(b);
        reader.put(c);
        reader.put(d);
        reader.put(e);
        return reader.length;
    }

    public int end(int n) {
        if (n < 0 || n > reader.length) {
            return NONE;
        }
        reader.length = n;
        return n;
    }

    public int row() {
        int bytes = reader.length;
        if (bytes == 0) {
            return refuse(BAD_TEXT);
        }
        int came = 0;
        for (int i = 0; i < bytes && i < TAPE; i++) {
            int part = reader.tape[i];
            if (isPart(part) && state.clock[part] < CLOCK) {
                state.clock[part]++;
                came++;
            }
        }
        screwCount = bytes - came;
        reader.length = 0;
        return fine(came);
    }

    public int screws() {
        return screwCount;
    }

    public int law() {
        if (state.laws >= LAWS) {
            reader.length = 0;
            return refuse(NO_ROOM);
        }
        Text text = reader.read(true);
        faultAt = reader.wrongAt;
        if (text == null) {
            return refuse(BAD_TEXT);
        }
        int number = state.laws;
        state.texts[number] = text;
        state.laws++;
        return fine(number);
    }

    public int orders() {
        stoppedAt = NONE;
        Text text = reader.read(false);
        faultAt = reader.wrongAt;
        if (text == null) {
            return refuse(BAD_TEXT);
        }
        ordersAhead.copyFrom(state.works);
        undoneAhead.copyFrom(undone);
        int done = runOrders(text);
        if (stoppedAt != NONE) {
            state.works.copyFrom(ordersAhead);
            undone.copyFrom(undoneAhead);
            return refuse(CANT_BE);
        }
        return fine(done);
    }

    public int fault() {
        return faultAt;
    }

    public int stopped() {
        return stoppedAt;
    }

    public int force(int law) {
        if (law != NONE && !isLaw(law)) {
            return refuse(NO_SUCH);
        }
        int was = state.force;
        state.force = law;
        return fine(was);
    }

    public int hang(int mirror) {
        return tell(change(HANG, mirror, 0));
    }

    public int down(int mirror) {
        return tell(change(DOWN, mirror, 0));
    }

    public int polish(int mirror, int by) {
        return tell(change(POLISH, mirror, by));
    }

    public int pass() {
        return tell(change(PASS, NONE, 0));
    }

    public int undo() {
        int kind = undone.takeBack(state.works);
        return kind == NONE ? refuse(CANT_BE) : fine(kind);
    }

    public int makes(int hour) {
        if (!isHour(hour)) {
            return NONE;
        }
        Works works = state.works;
        int bits = 0;
        for (int place = 0; place < works.hung && place < hour; place++) {
            int mirror = works.line[place];
            int seen = state.seen(mirror, place, hour);
            bits |= 1 << asker.madeOf(works, state.inForce(), mirror, place, hour, seen);
        }
        return bits;
    }

    public int whole(int hour, int i) {
        if (!isHour(hour) || i < NONE || i >= MIRRORS) {
            return NONE;
        }
        int mirrors = paper.wholeLine(hour);
        if (i == NONE) {
            return mirrors;
        }
        return i < mirrors ? paper.line[i] : NONE;
    }

    public int near(int hour) {
        return isHour(hour) ? paper.nearest(hour) : NONE;
    }

    public int hear(int hour, int part, int made) {
        if (!isHour(hour) || !isPart(part) || made < 0 || made > 1) {
            return refuse(BAD_NUMBER);
        }
        if (state.heard >= HEARD) {
            return refuse(NO_ROOM);
        }
        state.addHeard(hour, part, made);
        return fine(state.heard);
    }

    public int forget() {
        int was = state.heard;
        state.heard = 0;
        return was;
    }

    public int lines(int n, int i, int place) {
        if (n < 0 || n > MIRRORS || i < NONE) {
            return NONE;
        }
        if (i == NONE) {
            return paper.agreeingLines(n, NONE, false);
        }
        if (place < 0 || place >= n) {
            return NONE;
        }
        return paper.agreeingLines(n, i, false) > i ? paper.line[place] : NONE;
    }

    public int listen(int n, int what) {
        if (n < 0 || n > MIRRORS || what < 0 || what > 1) {
            return NONE;
        }
        if (paper.agreeingLines(n, NONE, true) == 0) {
            return NONE;
        }
        int hour = paper.bestHour();
        return what == 0 ? hour : paper.alikeAt(hour);
    }

    public int face(int one, int other, int part, int what) {
        if (!isMirror(one) || !isMirror(other) || !isPart(part) || what < 0 || what > 1) {
            return NONE;
        }
        return paper.facing(one, other, part, what);
    }

    public int union(int mirror) {
        return isMirror(mirror) ? state.crackedWith(mirror) : NONE;
    }

    public int ends(int n) {
        if (n < 0 || n > LONGEST) {
            return NONE;
        }
        sheet.copyFrom(state.works);
        for (int i = 0; i < n; i++) {
            asker.wearAll(sheet);
        }
        int bits = 0;
        for (int mirror = 0; mirror < state.mirrors; mirror++) {
            if (sheet.silver[mirror] == 0) {
                bits |= 1 << mirror;
            }
        }
        return bits;
    }

    public int till() {
        sheet.copyFrom(state.works);
        for (int nights = 0; nights <= TILL; nights++) {
            if (hasClock(sheet)) {
                return nights;
            }
            asker.workAll(sheet);
            asker.wearAll(sheet);
        }
        return NONE;
    }

    public int twins(int i) {
        return i < NONE ? NONE : paper.alike(i);
    }

    public long lasts(int mirror, int n) {
        if (!isMirror(mirror) || n < 0 || n > LONGEST) {
            return NONE;
        }
        Arrays.fill(chances, 0L);
        chances[state.works.silver[mirror]] = CERTAIN;
        for (int i = 0; i < n; i++) {
            flakeNight();
        }
        long sum = 0;
        for (int silver = 1; silver <= SILVER; silver++) {
            sum += chances[silver];
        }
        return sum;
    }

    public int wages(int law) {
        if (law != NONE && !isLaw(law)) {
            return NONE;
        }
        Text text = state.lawOf(law);
        Works works = state.works;
        int sum = 0;
        for (int place = 0; place < works.hung; place++) {
            int mirror = works.line[place];
            for (int hour = place + 1; hour <= state.hours; hour++) {
                int seen = state.seen(mirror, place, hour);
                int made = asker.madeOf(works, text, mirror, place, hour, seen);
                sum += asker.pay(works, text, made);
            }
        }
        return sum;
    }

    public int years(int seed, int n) {
        if (seed < 0 || seed > LARGEST_SEED || n < 1 || n > LONGEST) {
            return refuse(BAD_NUMBER);
        }
        if (state.mirrors == 0) {
            return refuse(CANT_BE);
        }
        year.copyFrom(state.works);
        yearMirrors = state.mirrors;
        int made = 0;
        int s = seed;
        for (int i = 0; i < n && year.night < LAST_NIGHT; i++) {
            s = drawAfter(s);
            int mirror = s % yearMirrors;
            s = drawAfter(s);
            if (s % 3 == 0) {
                asker.hangUp(year, mirror);
            } else if (s % 3 == 1) {
                year.takeDown(mirror);
            }
            made += asker.workAll(year);
            asker.wearAll(year);
        }
        return fine(made);
    }

    public int drawn(int k, int what) {
        if (yearMirrors == NONE || k < 0) {
            return NONE;
        }
        if (what == 0) {
            return k < PARTS ? year.stock[k] : NONE;
        }
        if (k >= yearMirrors) {
            return NONE;
        }
        if (what == 1) {
            return year.silver[k];
        }
        return what == 2 ? year.placeOf(k) : NONE;
    }

    public int image(int k) {
        if (k < 0 || k >= IMAGES) {
            return refuse(BAD_NUMBER);
        }
        images[k].copyFrom(state);
        kept[k] = true;
        return fine(0);
    }

    public int back(int k) {
        if (k < 0 || k >= IMAGES) {
            return refuse(BAD_NUMBER);
        }
        if (!kept[k]) {
            return refuse(NO_SUCH);
        }
        state.copyFrom(images[k]);
        undone.size = 0;
        return fine(0);
    }

    public int count(int what) {
        if (what >= 7 && what <= 11) {
            return refused[what - 7];
        }
        if (what >= 13 && what <= 16) {
            return state.term(what - 13);
        }
        switch (what) {
            case 0: return state.mirrors;
            case 1: return state.works.hung;
            case 2: return state.works.allStock();
            case 3: return state.heard;
            case 4: return state.laws;
            case 5: return undone.size;
            case 6: return reader.length;
            case 12: return state.force;
            default: return NONE;
        }
    }

    public int status() {
        return refusedBy;
    }

    private int refuse(int by) {
        // There is no -4, so the two below it are counted one slot nearer.
        int slot = by >= CANT_BE ? -1 - by : -2 - by;
        if (slot >= 0 && slot < refused.length) {
            refused[slot]++;
        }
        refusedBy = by;
        return by;
    }

    private int fine(int answer) {
        refusedBy = 0;
        return answer;
    }

    /** For calls whose answers are never below 0 unless they are refused. */
    private int tell(int answer) {
        return answer < 0 ? refuse(answer) : fine(answer);
    }

    private boolean isMirror(int mirror) {
        return mirror >= 0 && mirror < state.mirrors;
    }

    private boolean isLaw(int law) {
        return law >= 0 && law < state.laws;
    }

    private static boolean isPart(int part) {
        return part >= 0 && part < PARTS;
    }

    private static boolean isHour(int hour) {
        return hour >= 1 && hour <= HOURS;
    }

    /** How many parts a number names; 0 if it can't be. */
    private static int partsIn(int saw) {
        int rest = saw;
        int length = 0;
        while (rest > 0 && length < SAW) {
            int digit = rest % 10;
            if (digit < 1 || digit > PARTS) {
                return 0;
            }
            rest /= 10;
            length++;
        }
        return rest == 0 ? length : 0;
    }

    private static int drawAfter(int s) {
        return (int) ((s * 1103L + 12345L) % 1000003L);
    }

    private boolean hasClock(Works works) {
        for (int part = 0; part < PARTS; part++) {
            if (works.stock[part] < state.clock[part]) {
                return false;
            }
        }
        return true;
    }

    /** Rising, since what a silver loses goes to the one below, which has been reckoned already. */
    private void flakeNight() {
        for (int silver = 1; silver <= SILVER; silver++) {
            long had = chances[silver];
            chances[silver] = had * (10 - state.flakes) / 10;
            chances[silver - 1] += had * state.flakes / 10;
        }
    }

    /** The one way by which calls and orders change the works, so that each can be undone. */
    private int change(int kind, int mirror, int by) {
        Works works = state.works;
        ahead.copyFrom(works);
        int answer;
        switch (kind) {
            case HANG: answer = asker.hangUp(works, mirror); break;
            case DOWN: answer = isMirror(mirror) ? works.takeDown(mirror) : NO_SUCH; break;
            case POLISH: answer = polishOne(mirror, by); break;
            default: answer = works.night < LAST_NIGHT ? asker.workAll(works) : CANT_BE; break;
        }
        if (kind == PASS && answer >= 0) {
            asker.wearAll(works);
        }
        if (answer >= 0) {
            undone.keep(kind, ahead);
        }
        return answer;
    }

    private int polishOne(int mirror, int by) {
        if (by < 1 || by > SILVER) {
            return BAD_NUMBER;
        }
        if (!isMirror(mirror)) {
            return NO_SUCH;
        }
        Works works = state.works;
        if (works.stock[0] == 0) {
            return CANT_BE;
        }
        works.stock[0]--;
        works.silver[mirror] = Math.min(SILVER, works.silver[mirror] + by);
        return works.silver[mirror];
    }

    /** How many were run; where it stopped, if one can't be. */
    private int runOrders(Text text) {
        int done = 0;
        int made = NONE;
        for (int clause = 0; clause < text.size; clause++) {
            int kind = text.kindOf(clause);
            int test = text.testOf(clause);
            for (int time = 0; time < text.timesOf(clause); time++) {
                asker.setOrderWords(state.works, done, made);
                if (test != NONE && asker.reckon(text.code, test) != 1) {
                    continue;
                }
                int mirror = kind == PASS ? 0 : asker.reckon(text.code, text.firstOf(clause));
                int by = kind == POLISH ? asker.reckon(text.code, text.secondOf(clause)) : 0;
                int answer = mirror == BROKEN || by == BROKEN ? CANT_BE : change(kind, mirror, by);
                if (answer < 0) {
                    stoppedAt = clause;
                    return done;
                }
                done++;
                made = kind == PASS ? answer : made;
            }
        }
        return done;
    }

    /** What nights and orders change, so what undo() brings again. */
    private static final class Works {
        int night;
        int hung;
        final int[] line = new int[MIRRORS];
        final int[] silver = new int[MIRRORS];
        final int[] stock = new int[PARTS];

        void copyFrom(Works other) {
            night = other.night;
            hung = other.hung;
            System.arraycopy(other.line, 0, line, 0, MIRRORS);
            System.arraycopy(other.silver, 0, silver, 0, MIRRORS);
            System.arraycopy(other.stock, 0, stock, 0, PARTS);
        }

        int placeOf(int mirror) {
            for (int place = 0; place < hung; place++) {
                if (line[place] == mirror) {
                    return place;
                }
            }
            return NONE;
        }

        int takeDown(int mirror) {
            int place = placeOf(mirror);
            if (place == NONE) {
                return CANT_BE;
            }
            for (int i = place; i + 1 < hung; i++) {
                line[i] = line[i + 1];
            }
            hung--;
            return place;
        }

        void takeDownBlind() {
            int stay = 0;
            for (int place = 0; place < hung; place++) {
                if (silver[line[place]] > 0) {
                    line[stay] = line[place];
                    stay++;
                }
            }
            hung = stay;
        }

        int allStock() {
            int sum = 0;
            for (int part = 0; part < PARTS; part++) {
                sum += stock[part];
            }
            return sum;
        }
    }

    /** All that an image keeps. */
    private static final class State {
        int mirrors;
        final int[] length = new int[MIRRORS];
        final int[] saw = new int[MIRRORS * SAW];
        final int[] bend = new int[MIRRORS];
        final int[] cracks = new int[MIRRORS];
        final int[] clock = new int[PARTS];
        int heard;
        final int[] heardHour = new int[HEARD];
        final int[] heardPart = new int[HEARD];
        final int[] heardMade = new int[HEARD];
        int flakes = 3;
        int mood;
        int hours = 6;
        int laws;
        final Text[] texts = new Text[LAWS];
        int force = NONE;
        final Works works = new Works();

        void copyFrom(State other) {
            mirrors = other.mirrors;
            System.arraycopy(other.length, 0, length, 0, MIRRORS);
            System.arraycopy(other.saw, 0, saw, 0, MIRRORS * SAW);
            System.arraycopy(other.bend, 0, bend, 0, MIRRORS);
            System.arraycopy(other.cracks, 0, cracks, 0, MIRRORS);
            System.arraycopy(other.clock, 0, clock, 0, PARTS);
            heard = other.heard;
            System.arraycopy(other.heardHour, 0, heardHour, 0, HEARD);
            System.arraycopy(other.heardPart, 0, heardPart, 0, HEARD);
            System.arraycopy(other.heardMade, 0, heardMade, 0, HEARD);
            flakes = other.flakes;
            mood = other.mood;
            hours = other.hours;
            laws = other.laws;
            // A text never changes once it is read, so images may share it.
            for (int i = 0; i < LAWS; i++) {
                texts[i] = other.texts[i];
            }
            force = other.force;
            works.copyFrom(other.works);
        }

        void addMirror(int number, int parts, int newBend, int newSilver) {
            int rest = number;
            for (int k = parts - 1; k >= 0; k--) {
                saw[mirrors * SAW + k] = rest % 10 - 1;
                rest /= 10;
            }
            length[mirrors] = parts;
            bend[mirrors] = newBend;
            cracks[mirrors] = 0;
            works.silver[mirrors] = newSilver;
            mirrors++;
        }

        /** The part a mirror at a place works with at an hour behind that place; the last one comes first. */
        int seen(int mirror, int place, int hour) {
            int parts = length[mirror];
            if (parts < 1 || hour <= place) {
                return 0;
            }
            return saw[mirror * SAW + parts - 1 - (hour - place - 1) % parts];
        }

        void addHeard(int hour, int part, int made) {
            heardHour[heard] = hour;
            heardPart[heard] = part;
            heardMade[heard] = made;
            heard++;
        }

        void setCrack(int one, int other, int is) {
            cracks[one] = cracks[one] & ~(1 << other) | is << other;
            cracks[other] = cracks[other] & ~(1 << one) | is << one;
        }

        int crackedWith(int mirror) {
            int bits = 1 << mirror;
            // Each time round reaches at least one more, or all are reached.
            for (int time = 1; time < mirrors; time++) {
                for (int one = 0; one < mirrors; one++) {
                    if ((bits >> one & 1) == 1) {
                        bits |= cracks[one];
                    }
                }
            }
            return bits;
        }

        /** No term is ever below 0, so NONE says that there is no such one. */
        int term(int what) {
            switch (what) {
                case 0: return works.night;
                case 1: return flakes;
                case 2: return mood;
                case 3: return hours;
                default: return NONE;
            }
        }

        /** Whether the value can be. */
        boolean setTerm(int what, int value) {
            if (value < 0) {
                return false;
            }
            if (what == 0 && value <= LAST_NIGHT) {
                works.night = value;
            } else if (what == 1 && value <= 10) {
                flakes = value;
            } else if (what == 2 && value <= 9) {
                mood = value;
            } else if (what == 3 && value >= 1 && value <= HOURS) {
                hours = value;
            } else {
                return false;
            }
            return true;
        }

        Text lawOf(int law) {
            return law >= 0 && law < laws ? texts[law] : null;
        }

        Text inForce() {
            return lawOf(force);
        }
    }

    /** The works that were there ahead of each change, the oldest first. */
    private static final class Undone {
        int size;
        private final int[] kinds = new int[UNDONE];
        private final Works[] works = new Works[UNDONE];

        Undone() {
            for (int i = 0; i < UNDONE; i++) {
                works[i] = new Works();
            }
        }

        void keep(int kind, Works ahead) {
            if (size >= UNDONE) {
                dropOldest();
            }
            kinds[size] = kind;
            works[size].copyFrom(ahead);
            size++;
        }

        private void dropOldest() {
            Works oldest = works[0];
            for (int i = 1; i < UNDONE; i++) {
                works[i - 1] = works[i];
                kinds[i - 1] = kinds[i];
            }
            works[UNDONE - 1] = oldest;
            size = UNDONE - 1;
        }

        int takeBack(Works into) {
            if (size == 0) {
                return NONE;
            }
            size--;
            into.copyFrom(works[size]);
            return kinds[size];
        }

        void copyFrom(Undone other) {
            size = other.size;
            for (int i = 0; i < size; i++) {
                kinds[i] = other.kinds[i];
                works[i].copyFrom(other.works[i]);
            }
        }
    }

    /** A law, or orders, that can be: a row of clauses over one row of code. */
    private static final class Text {
        static final int WIDTH = 5;
        final int size;
        final int[] code;
        private final int[] clauses;

        Text(int size, int[] clauses, int[] code, int codeLength) {
            this.size = size;
            this.clauses = Arrays.copyOf(clauses, size * WIDTH);
            this.code = Arrays.copyOf(code, codeLength);
        }

        int kindOf(int clause) {
            return clauses[clause * WIDTH];
        }

        int firstOf(int clause) {
            return clauses[clause * WIDTH + 1];
        }

        int secondOf(int clause) {
            return clauses[clause * WIDTH + 2];
        }

        int timesOf(int clause) {
            return clauses[clause * WIDTH + 3];
        }

        /** Where the code of its "if" begins; NONE without one. */
        int testOf(int clause) {
            return clauses[clause * WIDTH + 4];
        }
    }

    /** What a step of code does; in its lower bits stands a number, a word or the step to go on at. */
    private static final class Op {
        static final int SHIFT = 16;
        static final int ARGUMENT = 0xffff;
        static final int STOP = 0;
        static final int NUMBER = 1;
        static final int WORD = 2;
        static final int NOT = 3;
        static final int OR = 4;
        static final int AND = 5;
        static final int PLUS = 6;
        static final int MINUS = 7;
        static final int TIMES = 8;
        static final int BY = 9;
        static final int LEFT = 10;
        static final int LESS = 11;
        static final int MORE = 12;
        static final int SAME = 13;
    }

    /** Holds the tape and reads texts from it into code whose operators stand behind what they join. */
    private static final class Reader {
        private static final int MOST_CLAUSES = 12;
        private static final int MOST_PARTS = 50;
        private static final int MOST_BRACKETS = 8;
        private static final int MOST_TIMES = 20;
        private static final int LARGEST = 1000;
        // A token makes one step at most, and each of a clause's two sums and its test one more that ends it.
        private static final int MOST_CODE = TAPE + 3 * MOST_CLAUSES;

        final int[] tape = new int[TAPE];
        int length;
        int wrongAt = NONE;
        private boolean ofLaws;
        private int begin;
        private int next;
        private boolean isDigits;
        private int number;
        private int parts;
        private final int[] code = new int[MOST_CODE];
        private int codeLength;
        private final int[] clauses = new int[MOST_CLAUSES * Text.WIDTH];
        private int size;

        void put(int four) {
            for (int shift = 24; shift >= 0 && length < TAPE; shift -= 8) {
                tape[length] = four >>> shift & 0xff;
                length++;
            }
        }

        /** The tape's text, or null and where it is wrong; the tape is empty then. */
        Text read(boolean laws) {
            ofLaws = laws;
            wrongAt = NONE;
            next = 0;
            parts = 0;
            codeLength = 0;
            size = 0;
            step();
            boolean good = readClause();
            for (int i = 1; good && is(";") && i <= MOST_CLAUSES; i++) {
                step();
                good = readClause();
            }
            good = good && (isEnd() || fail());
            length = 0;
            return good ? new Text(size, clauses, code, codeLength) : null;
        }

        private boolean fail() {
            wrongAt = begin;
            return false;
        }

        private boolean is(String token) {
            if (next - begin != token.length()) {
                return false;
            }
            for (int i = 0; i < token.length(); i++) {
                if (tape[begin + i] != token.charAt(i)) {
                    return false;
                }
            }
            return true;
        }

        /** Goes on to the next token; behind the last one that is an empty one at the text's length. */
        private void step() {
            int i = next;
            while (i < length && tape[i] == ' ') {
                i++;
            }
            begin = i;
            number = 0;
            while (i < length && tape[i] >= 'a' && tape[i] <= 'z') {
                i++;
            }
            isDigits = i == begin && i < length && tape[i] >= '0' && tape[i] <= '9';
            while (isDigits && i < length && tape[i] >= '0' && tape[i] <= '9') {
                // Held low, since a row of digits may be longer than any number.
                number = Math.min(number * 10 + tape[i] - '0', LARGEST + 1);
                i++;
            }
            next = i == begin && i < length ? i + 1 : i;
        }

        private boolean isEnd() {
            return begin >= length;
        }

        private boolean isNumber(int least, int most) {
            return isDigits && number >= least && number <= most;
        }

        private void emit(int op, int argument) {
            if (codeLength < MOST_CODE) {
                code[codeLength] = op << Op.SHIFT | argument;
                codeLength++;
            }
        }

        /** A step that was emitted with argument 0, if there is one, leads to here. */
        private void leadHere(int from) {
            if (from >= 0 && from < MOST_CODE) {
                code[from] |= codeLength;
            }
        }

        private int clauseKind() {
            if (ofLaws) {
                return is("makes") ? MAKES : is("wears") ? WEARS : is("pays") ? PAYS : is("bars") ? BARS : NONE;
            }
            return is("hang") ? HANG : is("down") ? DOWN : is("polish") ? POLISH : is("pass") ? PASS : NONE;
        }

        private boolean readClause() {
            int kind = clauseKind();
            if (kind == NONE || size >= MOST_CLAUSES) {
                return fail();
            }
            step();
            int at = size * Text.WIDTH;
            clauses[at] = kind;
            clauses[at + 1] = codeLength;
            if (kind != WITHOUT_SUM && !readSum(0)) {
                return false;
            }
            emit(Op.STOP, 0);
            clauses[at + 2] = codeLength;
            if (!ofLaws && kind == POLISH) {
                if (!is("by")) {
                    return fail();
                }
                step();
                if (!readSum(0)) {
                    return false;
                }
                emit(Op.STOP, 0);
            }
            clauses[at + 3] = 1;
            if (!ofLaws && is("times")) {
                step();
                if (!isNumber(1, MOST_TIMES)) {
                    return fail();
                }
                clauses[at + 3] = number;
                step();
            }
            clauses[at + 4] = NONE;
            if (is("if")) {
                step();
                clauses[at + 4] = codeLength;
                if (!readTest(0)) {
                    return false;
                }
                emit(Op.STOP, 0);
            }
            size++;
            return true;
        }

        /** An "and" leads behind the next plain, an "or" behind all of the next ones that "and" joins. */
        private boolean readTest(int depth) {
            int openAnd = NONE;
            int openOr = NONE;
            boolean good = readPlain(depth);
            for (int i = 0; i < TAPE && good && (is("and") || is("or")); i++) {
                boolean isOr = is("or");
                step();
                leadHere(openAnd);
                if (isOr) {
                    leadHere(openOr);
                }
                openAnd = isOr ? NONE : codeLength;
                openOr = isOr ? codeLength : openOr;
                emit(isOr ? Op.OR : Op.AND, 0);
                good = readPlain(depth);
            }
            leadHere(openAnd);
            leadHere(openOr);
            return good;
        }

        /** Many "not"s are counted here, so that they need no depth. */
        private boolean readPlain(int depth) {
            boolean turned = false;
            for (int i = 0; i < TAPE && is("not"); i++) {
                turned = !turned;
                step();
            }
            if (is("(")) {
                if (depth >= MOST_BRACKETS) {
                    return fail();
                }
                step();
                if (!readTest(depth + 1)) {
                    return false;
                }
                if (!is(")")) {
                    return fail();
                }
                step();
            } else {
                if (!readSum(depth)) {
                    return false;
                }
                int op = is("<") ? Op.LESS : is(">") ? Op.MORE : is("=") ? Op.SAME : NONE;
                if (op == NONE) {
                    return fail();
                }
                step();
                if (!readSum(depth)) {
                    return false;
                }
                emit(op, 0);
            }
            if (turned) {
                emit(Op.NOT, 0);
            }
            return true;
        }

        /** What "*", "/" and "%" join is emitted at once, what "+" and "-" join ahead of the next of these. */
        private boolean readSum(int depth) {
            int open = NONE;
            boolean good = readPart(depth);
            int op = joiner();
            for (int i = 0; i < TAPE && good && op != NONE; i++) {
                boolean closer = op == Op.PLUS || op == Op.MINUS;
                if (closer && open != NONE) {
                    emit(open, 0);
                }
                step();
                good = readPart(depth);
                if (closer) {
                    open = op;
                } else {
                    emit(op, 0);
                }
                op = joiner();
            }
            if (open != NONE) {
                emit(open, 0);
            }
            return good;
        }

        private int joiner() {
            if (is("+")) {
                return Op.PLUS;
            }
            if (is("-")) {
                return Op.MINUS;
            }
            return is("*") ? Op.TIMES : is("/") ? Op.BY : is("%") ? Op.LEFT : NONE;
        }

        private boolean readPart(int depth) {
            if (is("[")) {
                if (depth >= MOST_BRACKETS) {
                    return fail();
                }
                step();
                if (!readSum(depth + 1)) {
                    return false;
                }
                if (!is("]")) {
                    return fail();
                }
                step();
                return true;
            }
            int word = ofLaws ? lawWord() : orderWord();
            if (word == NONE && !isNumber(0, LARGEST) || parts >= MOST_PARTS) {
                return fail();
            }
            parts++;
            int value = number;
            step();
            if (word == NONE) {
                emit(Op.NUMBER, value);
            } else if (ofLaws || word < Asker.SILVER_OF) {
                emit(Op.WORD, word);
            } else {
                int many = word == Asker.SILVER_OF ? MIRRORS : PARTS;
                if (!isNumber(0, many - 1)) {
                    return fail();
                }
                emit(Op.WORD, word + number);
                step();
            }
            return true;
        }

        private int lawWord() {
            if (is("mirror")) {
                return Asker.MIRROR;
            }
            if (is("place")) {
                return Asker.PLACE;
            }
            if (is("hour")) {
                return Asker.HOUR;
            }
            if (is("part")) {
                return Asker.PART;
            }
            if (is("bend")) {
                return Asker.BEND;
            }
            if (is("silver")) {
                return Asker.OWN_SILVER;
            }
            if (is("night")) {
                return Asker.NIGHT;
            }
            return is("mood") ? Asker.MOOD : NONE;
        }

        private int orderWord() {
            if (is("night")) {
                return Asker.NIGHT_NOW;
            }
            if (is("done")) {
                return Asker.DONE;
            }
            if (is("latest")) {
                return Asker.LATEST;
            }
            if (is("hung")) {
                return Asker.HUNG;
            }
            if (is("silver")) {
                return Asker.SILVER_OF;
            }
            return is("stock") ? Asker.STOCK_OF : NONE;
        }
    }

    /** Reckons texts, and does by the laws whatever a mirror does. */
    private static final class Asker {
        // What a law's words stand for.
        static final int MIRROR = 0;
        static final int PLACE = 1;
        static final int HOUR = 2;
        static final int PART = 3;
        static final int BEND = 4;
        static final int OWN_SILVER = 5;
        static final int NIGHT = 6;
        static final int MOOD = 7;
        // What an order's words stand for; of the last two there is one for each mirror, each part.
        static final int NIGHT_NOW = 0;
        static final int DONE = 1;
        static final int LATEST = 2;
        static final int HUNG = 3;
        static final int SILVER_OF = 4;
        static final int STOCK_OF = SILVER_OF + MIRRORS;
        private static final int WORDS = STOCK_OF + PARTS;
        private static final long FARTHEST = 1000000000L;
        // Eight brackets, each with a comparison, a sum and a term left open, need no more.
        private static final int DEEPEST = 64;

        private final State state;
        private final int[] words = new int[WORDS];
        private final int[] stack = new int[DEEPEST];

        Asker(State state) {
            this.state = state;
        }

        /** What a mirror makes of a part. */
        int madeOf(Works works, Text law, int mirror, int place, int hour, int part) {
            setLawWords(works, mirror, place, hour, part);
            int told = lastTold(law, MAKES);
            return told == BROKEN ? (part + state.bend[mirror]) % PARTS : within(told, PARTS - 1);
        }

        int wear(Works works, int mirror, int place) {
            setLawWords(works, mirror, place, NONE, NONE);
            int told = lastTold(state.inForce(), WEARS);
            return told == BROKEN ? 1 : within(told, 9);
        }

        int pay(Works works, Text law, int part) {
            setLawWords(works, NONE, NONE, NONE, part);
            int told = lastTold(law, PAYS);
            return told == BROKEN ? 1 : within(told, 99);
        }

        boolean isBarred(Works works, int mirror, int place) {
            setLawWords(works, mirror, place, NONE, NONE);
            return lastTold(state.inForce(), BARS) != BROKEN;
        }

        /** The place, or what it is refused by. */
        int hangUp(Works works, int mirror) {
            if (mirror < 0 || mirror >= state.mirrors) {
                return NO_SUCH;
            }
            int place = works.hung;
            if (place >= MIRRORS || works.silver[mirror] == 0 || works.placeOf(mirror) != NONE
                    || isBarred(works, mirror, place)) {
                return CANT_BE;
            }
            works.line[place] = mirror;
            works.hung++;
            return place;
        }

        /** The first half of a night: how many parts are made. */
        int workAll(Works works) {
            Text law = state.inForce();
            int made = 0;
            for (int place = 0; place < works.hung; place++) {
                int mirror = works.line[place];
                for (int hour = place + 1; hour <= state.hours; hour++) {
                    int part = madeOf(works, law, mirror, place, hour, state.seen(mirror, place, hour));
                    works.stock[part] = Math.min(STOCK, works.stock[part] + 1);
                    made++;
                }
            }
            return made;
        }

        /**
         * The second half, up to the next night. No mirror is asked about another one's silver, so each
         * may lose its own at once.
         */
        void wearAll(Works works) {
            for (int place = 0; place < works.hung; place++) {
                int mirror = works.line[place];
                works.silver[mirror] = Math.max(0, works.silver[mirror] - wear(works, mirror, place));
            }
            works.takeDownBlind();
            works.night++;
        }

        private static int within(int value, int most) {
            return Math.max(0, Math.min(most, value));
        }

        private void setLawWords(Works works, int mirror, int place, int hour, int part) {
            words[MIRROR] = mirror;
            words[PLACE] = place;
            words[HOUR] = hour;
            words[PART] = part;
            words[BEND] = mirror < 0 ? NONE : state.bend[mirror];
            words[OWN_SILVER] = mirror < 0 ? NONE : works.silver[mirror];
            words[NIGHT] = works.night;
            words[MOOD] = state.mood;
        }

        void setOrderWords(Works works, int done, int made) {
            words[NIGHT_NOW] = works.night;
            words[DONE] = done;
            words[LATEST] = made;
            words[HUNG] = works.hung;
            for (int mirror = 0; mirror < MIRRORS; mirror++) {
                words[SILVER_OF + mirror] = mirror < state.mirrors ? works.silver[mirror] : NONE;
            }
            for (int part = 0; part < PARTS; part++) {
                words[STOCK_OF + part] = works.stock[part];
            }
        }

        /** The sum of the last clause of a kind that holds (0 of one without); BROKEN if none holds. */
        private int lastTold(Text law, int kind) {
            if (law == null) {
                return BROKEN;
            }
            for (int clause = law.size - 1; clause >= 0; clause--) {
                int test = law.testOf(clause);
                if (law.kindOf(clause) == kind && (test == NONE || reckon(law.code, test) == 1)) {
                    int told = kind == WITHOUT_SUM ? 0 : reckon(law.code, law.firstOf(clause));
                    if (told != BROKEN) {
                        return told;
                    }
                }
            }
            return BROKEN;
        }

        /** Runs code up to its stop. What is broken breaks all that asks for it, so the first one ends it. */
        int reckon(int[] code, int from) {
            int top = 0;
            for (int i = from; i >= 0 && i < code.length; i++) {
                int op = code[i] >> Op.SHIFT;
                int argument = code[i] & Op.ARGUMENT;
                if (op == Op.NUMBER || op == Op.WORD) {
                    if (top >= DEEPEST || op == Op.WORD && argument >= WORDS) {
                        return BROKEN;
                    }
                    stack[top] = op == Op.NUMBER ? argument : words[argument];
                    top++;
                    continue;
                }
                if (top < 1 || op > Op.AND && top < 2) {
                    return BROKEN;
                }
                int last = stack[top - 1];
                if (op == Op.STOP) {
                    return last;
                } else if (op == Op.NOT) {
                    stack[top - 1] = 1 - last;
                } else if (op == Op.OR || op == Op.AND) {
                    // A test that is settled stays and goes on behind what can't matter any more.
                    boolean settled = last == (op == Op.OR ? 1 : 0);
                    i = settled ? Math.max(i, argument - 1) : i;
                    top = settled ? top : top - 1;
                } else {
                    top--;
                    int joined = join(op, stack[top - 1], last);
                    if (joined == BROKEN) {
                        return BROKEN;
                    }
                    stack[top - 1] = joined;
                }
            }
            return BROKEN;
        }

        private static int join(int op, long one, long other) {
            if ((op == Op.BY || op == Op.LEFT) && other == 0) {
                return BROKEN;
            }
            long value;
            switch (op) {
                case Op.PLUS: value = one + other; break;
                case Op.MINUS: value = one - other; break;
                case Op.TIMES: value = one * other; break;
                case Op.BY: value = one / other; break;
                case Op.LEFT: value = one % other; break;
                case Op.LESS: value = one < other ? 1 : 0; break;
                case Op.MORE: value = one > other ? 1 : 0; break;
                default: value = one == other ? 1 : 0; break;
            }
            return value > FARTHEST || value < -FARTHEST ? BROKEN : (int) value;
        }
    }

    /** Reckons on paper what lines would make that do not hang. */
    private static final class Paper {
        private static final int SETS = 256;

        /** The line that was found last. */
        final int[] line = new int[MIRRORS];
        private final State state;
        private final Asker asker;
        private final int[] made = new int[MIRRORS * MIRRORS * HOURS];
        private final boolean[] fits = new boolean[MIRRORS * MIRRORS];
        private final int[] agrees = new int[MIRRORS * MIRRORS];
        private final int[] row = new int[MIRRORS];
        private final int[] missing = new int[PARTS];
        private final int[] seenAt = new int[PARTS];
        private final int[] tally = new int[HOURS * SETS];
        private final int[] most = new int[HOURS];
        private int off;
        private int nearest;
        private int needed;
        private int wanted;
        private int found;
        private boolean tallies;

        Paper(State state, Asker asker) {
            this.state = state;
            this.asker = asker;
        }

        /** How many mirrors the whole line has, which stands in line; NONE without one. */
        int wholeLine(int hour) {
            // One at a place from that hour on makes nothing by then, so a line of the fewest has none.
            int places = Math.min(state.mirrors, hour);
            int total = takeClock();
            int makes = 0;
            for (int n = 0; n <= places; n++) {
                if (makes == total) {
                    layOut(n, hour);
                    return completes(0, n, hour, 0) ? n : NONE;
                }
                makes += hour - n;
            }
            return NONE;
        }

        int nearest(int hour) {
            int places = Math.min(state.mirrors, hour);
            layOut(places, hour);
            takeClock();
            nearest = off;
            comeNearer(0, places, hour, 0);
            return nearest;
        }

        /** How many lines of n there are by what was heard, up to the wanted one, which stands in line. */
        int agreeingLines(int n, int wantedOne, boolean withTally) {
            found = 0;
            if (n > state.mirrors) {
                return 0;
            }
            wanted = wantedOne;
            tallies = withTally;
            if (tallies) {
                Arrays.fill(tally, 0);
                Arrays.fill(most, 0);
            }
            layOut(n, tallies ? HOURS : latestHeard());
            weighHeard(n);
            seekLines(0, n, 0, 0);
            return found;
        }

        /** Of the lines that were tallied last. */
        int bestHour() {
            int best = 1;
            for (int hour = 2; hour <= HOURS; hour++) {
                if (most[hour - 1] < most[best - 1]) {
                    best = hour;
                }
            }
            return best;
        }

        int alikeAt(int hour) {
            return hour >= 1 && hour <= HOURS ? most[hour - 1] : NONE;
        }

        int facing(int one, int other, int from, int what) {
            Works works = state.works;
            Text law = state.inForce();
            Arrays.fill(seenAt, NONE);
            int part = from;
            for (int step = 0; step <= PARTS; step++) {
                if (seenAt[part] != NONE) {
                    return what == 0 ? seenAt[part] : step - seenAt[part];
                }
                seenAt[part] = step;
                int between = asker.madeOf(works, law, one, 0, 1, part);
                part = asker.madeOf(works, law, other, 0, 1, between);
            }
            return NONE;
        }

        /** The i-th two that make alike, or how many there are, if i is NONE. */
        int alike(int i) {
            for (int mirror = 0; mirror < state.mirrors; mirror++) {
                layMirror(mirror, 0, HOURS);
            }
            int twos = 0;
            for (int lower = 0; lower < state.mirrors; lower++) {
                for (int higher = lower + 1; higher < state.mirrors; higher++) {
                    if (makeAlike(lower, higher)) {
                        if (twos == i) {
                            return lower * 10 + higher;
                        }
                        twos++;
                    }
                }
            }
            return i == NONE ? twos : NONE;
        }

        private boolean makeAlike(int lower, int higher) {
            for (int hour = 1; hour <= HOURS; hour++) {
                if (made[slot(lower, 0, hour)] != made[slot(higher, 0, hour)]) {
                    return false;
                }
            }
            return true;
        }

        private static int slot(int mirror, int place, int hour) {
            return (mirror * MIRRORS + place) * HOURS + hour - 1;
        }

        /** Asks once what each would make, so that the many lines need not ask again. */
        private void layOut(int places, int hours) {
            for (int mirror = 0; mirror < state.mirrors; mirror++) {
                for (int place = 0; place < places; place++) {
                    boolean may = state.works.silver[mirror] > 0
                            && !asker.isBarred(state.works, mirror, place);
                    fits[mirror * MIRRORS + place] = may;
                    if (may) {
                        layMirror(mirror, place, hours);
                    }
                }
            }
        }

        private void layMirror(int mirror, int place, int hours) {
            for (int hour = place + 1; hour <= hours; hour++) {
                int seen = state.seen(mirror, place, hour);
                made[slot(mirror, place, hour)] =
                        asker.madeOf(state.works, state.inForce(), mirror, place, hour, seen);
            }
        }

        /** How many parts the clock has; all are missing as yet. */
        private int takeClock() {
            off = 0;
            for (int part = 0; part < PARTS; part++) {
                missing[part] = state.clock[part];
                off += missing[part];
            }
            return off;
        }

        private boolean mayStand(int mirror, int place, int taken) {
            return (taken >> mirror & 1) == 0 && fits[mirror * MIRRORS + place];
        }

        private boolean completes(int place, int n, int hour, int taken) {
            if (place >= n || place >= MIRRORS) {
                return off == 0;
            }
            for (int mirror = 0; mirror < state.mirrors; mirror++) {
                if (mayStand(mirror, place, taken)) {
                    line[place] = mirror;
                    addMade(mirror, place, hour);
                    if (completes(place + 1, n, hour, taken | 1 << mirror)) {
                        return true;
                    }
                    dropMade(mirror, place, hour);
                }
            }
            return false;
        }

        private void comeNearer(int place, int places, int hour, int taken) {
            nearest = Math.min(nearest, off);
            if (place >= places || place >= MIRRORS) {
                return;
            }
            for (int mirror = 0; mirror < state.mirrors; mirror++) {
                if (mayStand(mirror, place, taken)) {
                    addMade(mirror, place, hour);
                    comeNearer(place + 1, places, hour, taken | 1 << mirror);
                    dropMade(mirror, place, hour);
                }
            }
        }

        private void addMade(int mirror, int place, int hour) {
            for (int h = place + 1; h <= hour; h++) {
                int part = made[slot(mirror, place, h)];
                missing[part]--;
                off += missing[part] < 0 ? 1 : -1;
            }
        }

        private void dropMade(int mirror, int place, int hour) {
            for (int h = place + 1; h <= hour; h++) {
                int part = made[slot(mirror, place, h)];
                missing[part]++;
                off += missing[part] > 0 ? 1 : -1;
            }
        }

        private int latestHeard() {
            int hour = 0;
            for (int i = 0; i < state.heard; i++) {
                hour = Math.max(hour, state.heardHour[i]);
            }
            return hour;
        }

        /** One that makes what none made fits nowhere; of what was made a line needs one for each. */
        private void weighHeard(int places) {
            needed = 0;
            for (int i = 0; i < state.heard; i++) {
                needed |= state.heardMade[i] << i;
            }
            for (int mirror = 0; mirror < state.mirrors; mirror++) {
                for (int place = 0; place < places; place++) {
                    int at = mirror * MIRRORS + place;
                    int heard = fits[at] ? heardFrom(mirror, place) : 0;
                    fits[at] = fits[at] && (heard & ~needed) == 0;
                    agrees[at] = heard;
                }
            }
        }

        /** Which of what was heard a mirror makes at a place, as bits. */
        private int heardFrom(int mirror, int place) {
            int bits = 0;
            for (int i = 0; i < state.heard; i++) {
                int hour = state.heardHour[i];
                if (hour > place && made[slot(mirror, place, hour)] == state.heardPart[i]) {
                    bits |= 1 << i;
                }
            }
            return bits;
        }

        private void seekLines(int place, int n, int taken, int agreed) {
            if (place >= n || place >= MIRRORS) {
                if (agreed == needed) {
                    takeLine(n);
                }
                return;
            }
            for (int mirror = 0; mirror < state.mirrors; mirror++) {
                boolean over = wanted != NONE && found > wanted;
                if (!over && mayStand(mirror, place, taken)) {
                    row[place] = mirror;
                    seekLines(place + 1, n, taken | 1 << mirror, agreed | agrees[mirror * MIRRORS + place]);
                }
            }
        }

        private void takeLine(int n) {
            if (found == wanted) {
                System.arraycopy(row, 0, line, 0, MIRRORS);
            }
            found++;
            for (int hour = 1; tallies && hour <= HOURS; hour++) {
                int set = 0;
                for (int place = 0; place < n && place < hour; place++) {
                    set |= 1 << made[slot(row[place], place, hour)];
                }
                int at = (hour - 1) * SETS + set;
                tally[at]++;
                most[hour - 1] = Math.max(most[hour - 1], tally[at]);
            }
        }
    }
}
