/** A choir in which each takes the note of whoever he is jealous of. The document's promises say what each call answers. */
public final class JealousChoir {
    public static final int UNKNOWN = -1, OUTSIDE = -2, STATE = -3, FULL = -4, NONE = -9;

    private static final int MOST_SINGERS = 6, MOST_SEATS = 8, MOST_NOTES = 10, MOST_LETTERS = 48;
    private static final int MOST_GOODS = 99, MOST_GIFT = 9, MOST_ACTS = 14, MOST_HEARD = 6, SLOTS = 2;
    private static final int FAR = 60, NEAR = 9, SIGHT = 3;
    private static final int PLAIN = 0, HELD = 1, BOY = 3;
    private static final int NO_CHANGE = 99;

    private final Script script = new Script();
    private final Roll roll = new Roll();
    private final Stand now = new Stand(roll);
    // What is only asked is tried here, so that nothing is changed and no call makes an object.
    private final Stand trial = new Stand(roll);
    private final ActRow acts = new ActRow(roll);
    private final Shelf shelf = new Shelf(roll);
    private final Hearsay hearsay = new Hearsay();
    private final Forecast forecast = new Forecast(roll, now, trial);
    private final Chances chances = new Chances(roll, now, trial);
    private final Years ahead = new Years(now, trial);

    public JealousChoir() {
    }

    // ---- the choir

    public int write(int letter) {
        if (letter < 0 || letter > 255) {
            return OUTSIDE;
        }
        return script.put(letter) ? script.length : FULL;
    }

    public int wipe() {
        int was = script.length;
        script.length = 0;
        return was;
    }

    public int fault() {
        return script.firstFault();
    }

    public int choir() {
        if (script.firstFault() != NONE) {
            return STATE;
        }
        script.tellTo(roll, now);
        acts.forgetAll();
        shelf.forgetAll();
        return roll.size;
    }

    public int singer(int singer, int what) {
        if (!now.isThere(singer)) {
            return UNKNOWN;
        }
        switch (what) {
            case 0: return now.seats[singer];
            case 1: return roll.voices[singer];
            case 2: return roll.ranges[singer];
            case 3: return now.goods[singer];
            case 4: return roll.kinds[singer];
            case 5: return now.notes[singer];
            case 6: return now.seenBy(singer);
            case 7: return now.enviedBy(singer);
            case 8: return now.isHeldOn(singer) ? 1 : 0;
            default: return OUTSIDE;
        }
    }

    public int seat(int seat) {
        return isWithin(seat, 0, MOST_SEATS - 1) ? now.whoIsAt(seat) : UNKNOWN;
    }

    // ---- acts

    public int bar() {
        acts.remember(now);
        now.goOn(1);
        now.bars++;
        return now.richness();
    }

    public int gift(int singer, int n) {
        if (!now.isThere(singer)) {
            return UNKNOWN;
        }
        if (!isWithin(n, 1, MOST_GIFT)) {
            return OUTSIDE;
        }
        acts.remember(now);
        now.give(singer, n);
        return now.goods[singer];
    }

    public int change(int one, int other) {
        if (!now.isThere(one) || !now.isThere(other)) {
            return UNKNOWN;
        }
        if (one == other) {
            return OUTSIDE;
        }
        acts.remember(now);
        now.swapSeats(one, other);
        return now.seats[one];
    }

    public int pitch() {
        acts.remember(now);
        now.takeVoices();
        return now.richness();
    }

    public int hold(int singer) {
        if (!now.isThere(singer)) {
            return UNKNOWN;
        }
        acts.remember(now);
        now.turnHeldOn(singer);
        return now.isHeldOn(singer) ? 1 : 0;
    }

    public int undo() {
        return acts.giveBack(now) ? acts.size : STATE;
    }

    // ---- bars to come

    public int sings(int singer, int n) {
        if (!now.isThere(singer)) {
            return UNKNOWN;
        }
        return isWithin(n, 0, FAR) ? forecast.noteBehind(singer, n) : OUTSIDE;
    }

    public int notes(int n) {
        return isWithin(n, 0, FAR) ? forecast.richnessBehind(n) : OUTSIDE;
    }

    public int round(int what) {
        return isWithin(what, 0, 1) ? forecast.firstReturn(what == 1) : OUTSIDE;
    }

    public int unison() {
        return forecast.firstOneNote();
    }

    public int gets(int singer, int note, int n, int what) {
        if (!now.isThere(singer)) {
            return UNKNOWN;
        }
        if (!isWithin(note, 0, MOST_NOTES - 1) || !isWithin(n, 1, NEAR) || !isWithin(what, 0, 1)) {
            return OUTSIDE;
        }
        return forecast.leastGift(singer, note, n, what == 1);
    }

    public int best(int n, int what) {
        if (!isWithin(n, 1, NEAR) || !isWithin(what, 0, 1)) {
            return OUTSIDE;
        }
        return forecast.richestChange(n, what == 1);
    }

    public int judge(int n, long row) {
        if (!isWithin(n, 1, 4) || row < 0 || withoutDoings(row, n) != 0) {
            return OUTSIDE;
        }
        return forecast.firstWrongDoing(n, row);
    }

    // ---- heard

    public int hear(int singer, int n, int v) {
        if (!now.isThere(singer)) {
            return UNKNOWN;
        }
        if (!isWithin(n, 0, NEAR) || !isWithin(v, 0, MOST_NOTES - 1)) {
            return OUTSIDE;
        }
        return hearsay.put(singer, n, v) ? hearsay.size : FULL;
    }

    public int unhear() {
        int was = hearsay.size;
        hearsay.size = 0;
        return was;
    }

    public int had(int singer) {
        return now.isThere(singer) ? forecast.goodsThatFit(singer, hearsay) : UNKNOWN;
    }

    // ---- shares, rests, chances

    public int share(int singer, boolean upper) {
        return now.isThere(singer) ? chances.meanGain(singer, upper) : UNKNOWN;
    }

    public int rests(int one, int other, int what) {
        if (!now.isThere(one) || !now.isThere(other)) {
            return UNKNOWN;
        }
        if (one == other || !isWithin(what, 0, 1)) {
            return OUTSIDE;
        }
        return chances.restingPairs(one, other, what == 1);
    }

    public int hoarse(int n, int x, boolean upper) {
        if (!isWithin(n, 0, NEAR) || !isWithin(x, 0, 10)) {
            return OUTSIDE;
        }
        return chances.chanceOfOneNote(n, x, upper);
    }

    public long seed(long v) {
        long was = ahead.x;
        ahead.x = v;
        return was;
    }

    public int years(int m) {
        return isWithin(m, 1, 30) ? ahead.goThrough(m) : OUTSIDE;
    }

    // ---- slots

    public int keep(int slot) {
        return shelf.put(slot, now) ? now.bars : UNKNOWN;
    }

    public int again(int slot) {
        if (!isWithin(slot, 0, SLOTS - 1)) {
            return UNKNOWN;
        }
        if (!shelf.giveBack(slot, now)) {
            return STATE;
        }
        acts.forgetAll();
        return now.bars;
    }

    public int count(int what) {
        switch (what) {
            case 0: return script.length;
            case 1: return roll.size;
            case 2: return now.bars;
            case 3: return now.seatsTaken();
            case 4: return now.notesSung();
            case 5: return now.goodsOfAll();
            case 6: return now.envious();
            case 7: return now.heldOn;
            case 8: return acts.size;
            case 9: return hearsay.size;
            default: return OUTSIDE;
        }
    }

    // ---- what several classes below use

    private static boolean isWithin(int number, int least, int most) {
        return number >= least && number <= most;
    }

    /** What is left of a row of doings when its last n doings, three figures each, are cut off. */
    private static long withoutDoings(long row, int n) {
        long rest = row;
        for (int i = 0; i < n; i++) {
            rest /= 1000;
        }
        return rest;
    }

    /** One side of a fraction in least terms; below is 1 or more. */
    private static int sideOfFraction(int above, int below, boolean upper) {
        int common = greatestDivisor(Math.abs(above), below);
        if (common == 0) {
            return 0;
        }
        return upper ? above / common : below / common;
    }

    private static int greatestDivisor(int one, int other) {
        int a = one;
        int b = other;
        // Euclid's steps over 31 bits are fewer than 50.
        for (int step = 0; step < 64 && b != 0; step++) {
            int rest = a % b;
            a = b;
            b = rest;
        }
        return a;
    }

    private static int power(int base, int times) {
        int product = 1;
        for (int i = 0; i < times; i++) {
            product *= base;
        }
        return product;
    }

    /** The text: a C, then six letters a singer. */
    private static final class Script {
        private static final int LETTERS_A_SINGER = 6;

        private final int[] letters = new int[MOST_LETTERS];
        private int length = 0;

        private boolean put(int letter) {
            if (length < 0 || length >= letters.length) {
                return false;
            }
            letters[length] = letter;
            length++;
            return true;
        }

        private int firstFault() {
            int seatsTold = 0;
            for (int place = 0; place < length && place < letters.length; place++) {
                if (!canStand(place, letters[place], seatsTold)) {
                    return place;
                }
                if (part(place) == 1) {
                    seatsTold |= 1 << (letters[place] - '0');
                }
            }
            boolean ended = length > 0 && part(length) == 0;
            return ended ? NONE : length;
        }

        /** Which of a singer's six letters stands at a place behind the C. */
        private static int part(int place) {
            return place < 1 ? NONE : (place - 1) % LETTERS_A_SINGER;
        }

        private static boolean canStand(int place, int letter, int seatsTold) {
            if (place == 0) {
                return letter == 'C';
            }
            if (place > MOST_SINGERS * LETTERS_A_SINGER) {
                return false;
            }
            int figure = letter - '0';
            switch (part(place)) {
                case 0: return letter == 'S';
                case 1: return isWithin(figure, 0, MOST_SEATS - 1) && (seatsTold >> figure & 1) == 0;
                case 5: return isWithin(figure, 0, BOY);
                default: return isWithin(figure, 0, 9);
            }
        }

        /** Only for a text without a fault. */
        private void tellTo(Roll roll, Stand stand) {
            roll.size = Math.min((length - 1) / LETTERS_A_SINGER, MOST_SINGERS);
            for (int i = 0; i < roll.size && i < MOST_SINGERS; i++) {
                int start = 1 + i * LETTERS_A_SINGER;
                stand.seats[i] = letters[start + 1] - '0';
                roll.voices[i] = letters[start + 2] - '0';
                roll.ranges[i] = letters[start + 3] - '0';
                stand.goods[i] = letters[start + 4] - '0';
                roll.kinds[i] = letters[start + 5] - '0';
            }
            stand.there = roll.everybody();
            stand.heldOn = 0;
            stand.bars = 0;
            stand.takeVoices();
        }
    }

    /** What no act changes of the singers. */
    private static final class Roll {
        private final int[] voices = new int[MOST_SINGERS];
        private final int[] ranges = new int[MOST_SINGERS];
        private final int[] kinds = new int[MOST_SINGERS];
        private int size = 0;

        private int everybody() {
            return (1 << size) - 1;
        }
    }

    /** How the choir stands at one time; the rows are read only for those who are there. */
    private static final class Stand {
        private final Roll roll;
        private final int[] seats = new int[MOST_SINGERS];
        private final int[] goods = new int[MOST_SINGERS];
        private final int[] notes = new int[MOST_SINGERS];
        // The notes of the bar that is being sung, since all sing at once.
        private final int[] nextNotes = new int[MOST_SINGERS];
        private int there = 0;
        private int heldOn = 0;
        private int bars = 0;

        private Stand(Roll roll) {
            this.roll = roll;
        }

        private void copyFrom(Stand other) {
            System.arraycopy(other.seats, 0, seats, 0, MOST_SINGERS);
            System.arraycopy(other.goods, 0, goods, 0, MOST_SINGERS);
            System.arraycopy(other.notes, 0, notes, 0, MOST_SINGERS);
            there = other.there;
            heldOn = other.heldOn;
            bars = other.bars;
        }

        private boolean isThere(int singer) {
            return singer >= 0 && singer < MOST_SINGERS && (there >> singer & 1) == 1;
        }

        private boolean isHeldOn(int singer) {
            return (heldOn >> singer & 1) == 1;
        }

        private boolean isHeld(int singer) {
            return roll.kinds[singer] == HELD || (heldOn >> singer & 1) == 1;
        }

        private boolean isSeen(int one, int other) {
            int gap = seats[one] - seats[other];
            return one != other && (there >> other & 1) == 1 && gap <= SIGHT && gap >= -SIGHT;
        }

        private int seenBy(int one) {
            int bits = 0;
            for (int other = 0; other < MOST_SINGERS; other++) {
                if (isSeen(one, other)) {
                    bits |= 1 << other;
                }
            }
            return bits;
        }

        /** Whom one envies: by goods, or a boy by notes; of like ones the least number. */
        private int enviedBy(int one) {
            int kind = roll.kinds[one];
            if (isHeld(one) || kind != PLAIN && kind != BOY) {
                return NONE;
            }
            int[] row = kind == PLAIN ? goods : notes;
            int most = row[one];
            int who = NONE;
            for (int other = 0; other < MOST_SINGERS; other++) {
                if (row[other] > most && isSeen(one, other)) {
                    most = row[other];
                    who = other;
                }
            }
            return who;
        }

        private int nextNoteOf(int one) {
            if (isHeld(one)) {
                return notes[one];
            }
            int envied = enviedBy(one);
            int voice = roll.voices[one];
            if (envied < 0 || envied >= MOST_SINGERS) {
                return voice;
            }
            int range = roll.ranges[one];
            return Math.max(Math.min(notes[envied], voice + range), voice - range);
        }

        /** Sings n bars without counting them. */
        private void goOn(int n) {
            for (int bar = 0; bar < n; bar++) {
                boolean moved = false;
                for (int i = 0; i < MOST_SINGERS; i++) {
                    nextNotes[i] = isThere(i) ? nextNoteOf(i) : notes[i];
                    moved = moved || nextNotes[i] != notes[i];
                }
                if (!moved) {
                    // A bar goes by the notes alone, so those behind it would move none either.
                    break;
                }
                System.arraycopy(nextNotes, 0, notes, 0, MOST_SINGERS);
            }
        }

        private void give(int singer, int n) {
            goods[singer] = Math.min(goods[singer] + n, MOST_GOODS);
        }

        private void swapSeats(int one, int other) {
            int seat = seats[one];
            seats[one] = seats[other];
            seats[other] = seat;
        }

        private void takeVoices() {
            System.arraycopy(roll.voices, 0, notes, 0, MOST_SINGERS);
        }

        private void turnHeldOn(int singer) {
            heldOn ^= 1 << singer;
        }

        private int whoIsAt(int seat) {
            for (int i = 0; i < MOST_SINGERS; i++) {
                if (isThere(i) && seats[i] == seat) {
                    return i;
                }
            }
            return NONE;
        }

        private int seatsTaken() {
            return bitsOf(seats);
        }

        private int notesSung() {
            return bitsOf(notes);
        }

        private int bitsOf(int[] row) {
            int bits = 0;
            for (int i = 0; i < MOST_SINGERS; i++) {
                if (isThere(i)) {
                    bits |= 1 << row[i];
                }
            }
            return bits;
        }

        private int richness() {
            return Integer.bitCount(notesSung());
        }

        private int howManySing(int note) {
            int number = 0;
            for (int i = 0; i < MOST_SINGERS; i++) {
                if (isThere(i) && notes[i] == note) {
                    number++;
                }
            }
            return number;
        }

        private int goodsOfAll() {
            int sum = 0;
            for (int i = 0; i < MOST_SINGERS; i++) {
                if (isThere(i)) {
                    sum += goods[i];
                }
            }
            return sum;
        }

        private int envious() {
            int bits = 0;
            for (int i = 0; i < MOST_SINGERS; i++) {
                if (isThere(i) && enviedBy(i) != NONE) {
                    bits |= 1 << i;
                }
            }
            return bits;
        }

        /** All notes in one number, so that two times can be compared. */
        private int notesAsNumber() {
            int number = 0;
            for (int i = 0; i < MOST_SINGERS; i++) {
                number = number * MOST_NOTES + (isThere(i) ? notes[i] : 0);
            }
            return number;
        }
    }

    /** How the choir stood before each of the last acts, in a ring. */
    private static final class ActRow {
        private final Stand[] before = new Stand[MOST_ACTS];
        private int next = 0;
        private int size = 0;

        private ActRow(Roll roll) {
            for (int i = 0; i < before.length; i++) {
                before[i] = new Stand(roll);
            }
        }

        private void forgetAll() {
            size = 0;
        }

        private void remember(Stand now) {
            before[next].copyFrom(now);
            next = next + 1 < MOST_ACTS ? next + 1 : 0;
            size = Math.min(size + 1, MOST_ACTS);
        }

        private boolean giveBack(Stand now) {
            if (size == 0) {
                return false;
            }
            next = next > 0 ? next - 1 : MOST_ACTS - 1;
            size--;
            now.copyFrom(before[next]);
            return true;
        }
    }

    /** The two slots. */
    private static final class Shelf {
        private final Stand[] kept = new Stand[SLOTS];
        private int filled = 0;

        private Shelf(Roll roll) {
            for (int i = 0; i < kept.length; i++) {
                kept[i] = new Stand(roll);
            }
        }

        private void forgetAll() {
            filled = 0;
        }

        private boolean put(int slot, Stand now) {
            if (!isWithin(slot, 0, SLOTS - 1)) {
                return false;
            }
            kept[slot].copyFrom(now);
            filled |= 1 << slot;
            return true;
        }

        private boolean giveBack(int slot, Stand now) {
            if (!isWithin(slot, 0, SLOTS - 1) || (filled >> slot & 1) == 0) {
                return false;
            }
            now.copyFrom(kept[slot]);
            return true;
        }
    }

    /** What was heard; it outlives a choir, so it may name singers that there are not any more. */
    private static final class Hearsay {
        private final int[] singers = new int[MOST_HEARD];
        private final int[] times = new int[MOST_HEARD];
        private final int[] sung = new int[MOST_HEARD];
        private int size = 0;

        private boolean put(int singer, int time, int note) {
            if (size < 0 || size >= MOST_HEARD) {
                return false;
            }
            singers[size] = singer;
            times[size] = time;
            sung[size] = note;
            size++;
            return true;
        }

        private boolean allowsAt(int time, Stand stand) {
            for (int i = 0; i < size && i < MOST_HEARD; i++) {
                int singer = singers[i];
                if (times[i] == time && stand.isThere(singer) && stand.notes[singer] != sung[i]) {
                    return false;
                }
            }
            return true;
        }
    }

    /** Bars to come. */
    private static final class Forecast {
        private final Roll roll;
        private final Stand now;
        private final Stand trial;
        private final int[] sungBehind = new int[FAR + 1];

        private Forecast(Roll roll, Stand now, Stand trial) {
            this.roll = roll;
            this.now = now;
            this.trial = trial;
        }

        private int noteBehind(int singer, int n) {
            trial.copyFrom(now);
            trial.goOn(n);
            return trial.notes[singer];
        }

        private int richnessBehind(int n) {
            trial.copyFrom(now);
            trial.goOn(n);
            return trial.richness();
        }

        private int firstReturn(boolean howManyMore) {
            trial.copyFrom(now);
            for (int i = 0; i <= FAR; i++) {
                sungBehind[i] = trial.notesAsNumber();
                trial.goOn(1);
            }
            for (int first = 0; first < FAR; first++) {
                for (int later = first + 1; later <= FAR; later++) {
                    if (sungBehind[first] == sungBehind[later]) {
                        return howManyMore ? later - first : first;
                    }
                }
            }
            return NONE;
        }

        private int firstOneNote() {
            trial.copyFrom(now);
            for (int i = 0; i <= FAR; i++) {
                if (trial.richness() <= 1) {
                    return i;
                }
                trial.goOn(1);
            }
            return NONE;
        }

        private int leastGift(int singer, int note, int n, boolean toWhom) {
            if (noteBehind(singer, n) == note) {
                return toWhom ? NONE : 0;
            }
            for (int much = 1; much <= MOST_GIFT; much++) {
                for (int who = 0; who < roll.size; who++) {
                    trial.copyFrom(now);
                    trial.give(who, much);
                    trial.goOn(n);
                    if (trial.notes[singer] == note) {
                        return toWhom ? who : much;
                    }
                }
            }
            return NONE;
        }

        private int richestChange(int n, boolean which) {
            int most = richnessBehind(n);
            int pair = NO_CHANGE;
            for (int one = 0; one < roll.size; one++) {
                for (int other = one + 1; other < roll.size; other++) {
                    trial.copyFrom(now);
                    trial.swapSeats(one, other);
                    trial.goOn(n);
                    int rich = trial.richness();
                    if (rich > most) {
                        most = rich;
                        pair = 10 * one + other;
                    }
                }
            }
            return which ? pair : most;
        }

        private int firstWrongDoing(int n, long row) {
            trial.copyFrom(now);
            for (int place = 0; place < n; place++) {
                int doing = (int) (withoutDoings(row, n - 1 - place) % 1000);
                int kind = doing / 100;
                int one = doing / 10 % 10;
                int other = doing % 10;
                if (!canBe(kind, one, other)) {
                    return place;
                }
                happen(kind, one, other);
            }
            return NONE;
        }

        private boolean canBe(int kind, int one, int other) {
            switch (kind) {
                case 0:
                case 3: return one == 0 && other == 0;
                case 1: return trial.isThere(one) && other > 0;
                case 2: return trial.isThere(one) && trial.isThere(other) && one != other;
                case 4: return trial.isThere(one) && trial.notes[one] == other;
                case 5: return trial.isThere(one) && trial.enviedBy(one) == other;
                default: return false;
            }
        }

        /** Only for what can be; kinds 4 and 5 tell what is so and do nothing. */
        private void happen(int kind, int one, int other) {
            switch (kind) {
                case 0: trial.goOn(1); break;
                case 1: trial.give(one, other); break;
                case 2: trial.swapSeats(one, other); break;
                case 3: trial.takeVoices(); break;
                default: break;
            }
        }

        private int goodsThatFit(int singer, Hearsay hearsay) {
            int bits = 0;
            for (int much = 0; much <= 9; much++) {
                trial.copyFrom(now);
                trial.goods[singer] = much;
                if (isAllHeard(hearsay)) {
                    bits |= 1 << much;
                }
            }
            return bits;
        }

        private boolean isAllHeard(Hearsay hearsay) {
            for (int time = 0; time <= NEAR; time++) {
                if (!hearsay.allowsAt(time, trial)) {
                    return false;
                }
                trial.goOn(1);
            }
            return true;
        }
    }

    /** Shares, patrons at rest, hoarse ones: over all who may be there and all who may be given to. */
    private static final class Chances {
        private static final int SIX_BARS = 6, PATRON_GOODS = 4;
        private static final int[] FACTORIALS = {1, 1, 2, 6, 24, 120, 720};

        private final Roll roll;
        private final Stand now;
        private final Stand trial;
        private final int[] richnessOf = new int[1 << MOST_SINGERS];
        private final int[] forOne = new int[MOST_SINGERS * MOST_SINGERS];
        private final int[] forOther = new int[MOST_SINGERS * MOST_SINGERS];

        private Chances(Roll roll, Stand now, Stand trial) {
            this.roll = roll;
            this.now = now;
            this.trial = trial;
        }

        /** How rich it is behind n bars from now if only these are there. */
        private int richnessOfSome(int some, int n) {
            trial.copyFrom(now);
            trial.there = some;
            trial.goOn(n);
            return trial.richness();
        }

        private int meanGain(int singer, boolean upper) {
            int everybody = roll.everybody();
            for (int some = 0; some <= everybody && some < richnessOf.length; some++) {
                richnessOf[some] = richnessOfSome(some, SIX_BARS);
            }
            int sum = 0;
            for (int some = 0; some <= everybody && some < richnessOf.length; some++) {
                if ((some >> singer & 1) == 1) {
                    int gain = richnessOf[some] - richnessOf[some & ~(1 << singer)];
                    sum += gain * ordersOf(Integer.bitCount(some));
                }
            }
            return sideOfFraction(sum, factorial(roll.size), upper);
        }

        /** In how many orders a told singer comes as the last of so many told ones, with all others behind. */
        private int ordersOf(int come) {
            return factorial(come - 1) * factorial(roll.size - come);
        }

        private static int factorial(int n) {
            return n >= 0 && n < FACTORIALS.length ? FACTORIALS[n] : 1;
        }

        private int restingPairs(int one, int other, boolean first) {
            for (int a = 0; a < roll.size; a++) {
                for (int b = 0; b < roll.size; b++) {
                    giveAndCount(one, other, a, b);
                }
            }
            int pairs = 0;
            int firstPair = NONE;
            for (int a = 0; a < roll.size; a++) {
                for (int b = 0; b < roll.size; b++) {
                    if (isAtRest(a, b)) {
                        firstPair = pairs == 0 ? 10 * a + b : firstPair;
                        pairs++;
                    }
                }
            }
            return first ? firstPair : pairs;
        }

        private void giveAndCount(int one, int other, int a, int b) {
            trial.copyFrom(now);
            trial.give(a, PATRON_GOODS);
            trial.give(b, PATRON_GOODS);
            trial.goOn(SIX_BARS);
            forOne[a * MOST_SINGERS + b] = trial.howManySing(roll.voices[one]);
            forOther[a * MOST_SINGERS + b] = trial.howManySing(roll.voices[other]);
        }

        private boolean isAtRest(int a, int b) {
            int pair = a * MOST_SINGERS + b;
            for (int i = 0; i < roll.size; i++) {
                if (forOne[i * MOST_SINGERS + b] > forOne[pair] || forOther[a * MOST_SINGERS + i] > forOther[pair]) {
                    return false;
                }
            }
            return true;
        }

        private int chanceOfOneNote(int n, int x, boolean upper) {
            int everybody = roll.everybody();
            int sum = 0;
            for (int some = 0; some <= everybody; some++) {
                int clear = Integer.bitCount(some);
                int weight = power(x, roll.size - clear) * power(10 - x, clear);
                if (weight > 0 && richnessOfSome(some, n) <= 1) {
                    sum += weight;
                }
            }
            return sideOfFraction(sum, power(10, roll.size), upper);
        }
    }

    /** Years by the seed. */
    private static final class Years {
        private static final long FACTOR = 6364136223846793005L, ADDEND = 1442695040888963407L;

        private final Stand now;
        private final Stand trial;
        private long x = 0;

        private Years(Stand now, Stand trial) {
            this.now = now;
            this.trial = trial;
        }

        private int goThrough(int m) {
            trial.copyFrom(now);
            int sum = 0;
            for (int i = 0; i < m; i++) {
                x = x * FACTOR + ADDEND;
                happen((int) ((x >>> 33) % 28));
                sum += trial.richness();
            }
            return sum;
        }

        private void happen(int lot) {
            if (lot < 6) {
                if (trial.isThere(lot)) {
                    trial.give(lot, 1);
                }
            } else if (lot < 12) {
                if (trial.isThere(lot - 6)) {
                    trial.turnHeldOn(lot - 6);
                }
            } else if (lot < 17) {
                if (trial.isThere(lot - 12) && trial.isThere(lot - 11)) {
                    trial.swapSeats(lot - 12, lot - 11);
                }
            } else if (lot == 17) {
                trial.takeVoices();
            } else {
                trial.goOn(1);
            }
        }
    }
}
