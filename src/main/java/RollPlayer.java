/**
 * A player of punched rolls. The document with its numbered promises is DOC.md; words in capitals
 * are used as it uses them.
 */
public final class RollPlayer {
    public static final int BAD = -1, FULL = -2, BUSY = -3, NONE = -4;

    // FINDINGS
    private static final int WHOLE = 0, LOST = 1, TORN = 2, SIZE = 3, SPAN = 4, KIND = 5, STORE = 6;
    private static final int LONG = 7, SHORT = 8, SUM = 9, SPOILT = 10;

    // KINDS of STRIPS
    private static final int HOLES = 0, LEVELS = 1, STOPS = 2, TEMPO = 3;

    // KINDS of INSTRUMENTS; a CHEST may also be of ANY
    private static final int PIPE = 0, REED = 1, BASS = 2, DRUM = 3, PLUCKED = 4, BELL = 5, COUPLER = 6;
    private static final int ANY = 7;

    // BODIES
    private static final int LOUD_PIPE = 0, LOUD_REED = 1, LOUD_DRUM = 2, LOUD_PLUCKED = 3;
    private static final int LOUD_BELL = 4, LOUD_COUPLER = 5, AIR_PIPE = 6, AIR_BASS = 7;
    private static final int PITCH_PIPE = 8, PITCH_REED = 9, PITCH_BASS = 10, PITCH_PLUCKED = 11;
    private static final int PITCH_BELL = 12, PITCH_COUPLER = 13;
    private static final int OPEN_ANY = 14, OPEN_COUPLER = 15, END_ANY = 16, BODIES = 17;

    // sorts of EVENTS
    private static final int STRIP_BEGAN = 0, OPENED = 1, ENDED = 2, HOLE_FAILED = 3;

    // limits of the document
    private static final int MOST_ROLLS = 20, MOST_STRIPS = 400, MOST_ELEMENTS = 8000;
    private static final int MOST_IN_ROW = 256, MOST_TICKS_OF_STRIP = 256, MOST_NUMBER = 30000;
    private static final int MOST_INSTRUMENTS = 60, MOST_MEMBERS = 8, MOST_SIZE = 40;
    private static final int MOST_CHESTS = 16, MOST_PLACES = 200, TRACKS = 8;
    private static final int MOST_SPOIL = 1000, MOST_RATIO = 1000, MOST_BASE = 32000;
    private static final int MOST_EVENTS = 1500, MOST_TICKS = 20000, MOST_AT_ONCE = 500;
    private static final int MOST_AT_A_TIME = 8, MOST_SHIFT = 7;
    private static final int KEPT = MOST_AT_ONCE + 1;
    private static final int MOST_SOUNDING = TRACKS * MOST_SIZE;
    private static final int MOST_FALLEN = MOST_IN_ROW * MOST_SHIFT;

    // bytes of a HEAD, and where in it number, length and sum begin
    private static final int HEAD = 9, HEAD_NUMBER = 1, HEAD_LENGTH = 3, HEAD_SUM = 5;

    // where the state of PLAYING has what; the first seven as at() numbers them
    private static final int NOW_TEMPO = 0, NOW_BEAT = 1, NOW_PHASE = 2, NOW_GONE = 3;
    private static final int NOW_PLACE = 4, NOW_OVER = 5, NOW_WHOLE = 6;
    private static final int NOW_HOLES = 7, NOW_STOPS = 8;
    private static final int NOW_FROM = 9, NOW_TARGET = 10, NOW_SPAN = 11, NOW_STEP = 12;
    private static final int NOW_EVENTS = 13, NOW_SOUNDS = 14, NOW_LEVELS = 15;
    private static final int NOW_SPOIL = NOW_LEVELS + TRACKS;
    private static final int NOW_OPENED = NOW_SPOIL + MOST_INSTRUMENTS;
    private static final int NOW_ENDED = NOW_OPENED + MOST_INSTRUMENTS;
    private static final int NOW_FIRST_SOUND = NOW_ENDED + MOST_INSTRUMENTS;
    private static final int NOW_LENGTH = NOW_FIRST_SOUND + MOST_SOUNDING;

    private final Roll[] rolls = new Roll[MOST_ROLLS];
    private final Organ organ = new Organ();
    private final int[] fallOff = new int[MOST_FALLEN];
    private int rollCount = 0;
    private int stripCount = 0;
    private int elementCount = 0;
    private int fallCount = 0;
    private int latest = 0;

    public RollPlayer() {
    }

    // ---- how an act went

    private int done(int answer) {
        latest = 0;
        return answer;
    }

    private int refuse(int why) {
        latest = why;
        return why;
    }

    private int found(int what) {
        latest = what;
        return -10 - what;
    }

    private int nothingThere() {
        latest = 0;
        return NONE;
    }

    private long refuseLong(int why) {
        latest = why;
        return 0L;
    }

    private long doneLong(long answer) {
        latest = 0;
        return answer;
    }

    // ---- what there is

    private Roll rollAt(int roll) {
        return roll >= 0 && roll < rollCount && roll < MOST_ROLLS ? rolls[roll] : null;
    }

    private Strip stripAt(int roll, int strip) {
        Roll of = rollAt(roll);
        return of == null ? null : of.stripAt(strip);
    }

    private boolean tooManyElements(int more) {
        return elementCount + more > MOST_ELEMENTS;
    }

    // ---- strips

    public int roll() {
        if (organ.playing) return refuse(BUSY);
        if (rollCount >= MOST_ROLLS) return refuse(FULL);
        rolls[rollCount] = new Roll();
        rollCount++;
        return done(rollCount - 1);
    }

    public int strip(int roll, int kind, int number, int n, int ticks) {
        Roll to = rollAt(roll);
        if (to == null || kind < HOLES || kind > TEMPO) return refuse(BAD);
        if (number < 0 || number > MOST_NUMBER || n > MOST_IN_ROW) return refuse(BAD);
        if (ticks < 0 || ticks > MOST_TICKS_OF_STRIP) return refuse(BAD);
        if (organ.playing) return refuse(BUSY);
        if (stripCount >= MOST_STRIPS || n > 0 && tooManyElements(n)) return refuse(FULL);
        if (n < 0) return found(SIZE);
        Strip made = new Strip(kind, number, ticks, n);
        made.writeHead();
        to.append(made);
        stripCount++;
        elementCount += n;
        return done(to.count - 1);
    }

    public int punch(int roll, int strip, int k, int v) {
        Strip at = stripAt(roll, strip);
        if (at == null) return refuse(BAD);
        if (organ.playing) return refuse(BUSY);
        if (at.lost) return found(LOST);
        if (k < 0 || k >= at.elements()) return found(TORN);
        boolean wasWhole = at.verdict() == WHOLE;
        at.putElement(k, v);
        if (wasWhole) at.writeHead();
        return done(1);
    }

    public int seal(int roll, int strip) {
        Strip at = stripAt(roll, strip);
        if (at == null) return refuse(BAD);
        if (organ.playing) return refuse(BUSY);
        if (at.lost) return found(LOST);
        at.writeHead();
        return done(at.elements());
    }

    public int lose(int roll, int strip) {
        Strip at = stripAt(roll, strip);
        if (at == null) return refuse(BAD);
        if (organ.playing) return refuse(BUSY);
        if (at.lost) return done(0);
        elementCount -= at.elements();
        at.dropAll();
        return done(1);
    }

    public int tear(int roll, int strip, int n) {
        Strip at = stripAt(roll, strip);
        if (at == null || n < 0) return refuse(BAD);
        if (organ.playing) return refuse(BUSY);
        if (at.lost) return found(LOST);
        elementCount -= at.elements();
        at.keepFirst(n);
        elementCount += at.elements();
        return done(at.elements());
    }

    public int damage(int roll, int strip, int i, int mask) {
        Strip at = stripAt(roll, strip);
        if (at == null) return refuse(BAD);
        if (organ.playing) return refuse(BUSY);
        if (at.lost) return found(LOST);
        if (i < 0 || i >= at.length) return found(TORN);
        at.bytes[i] = (byte) (at.bytes[i] ^ mask);
        return done(at.bytes[i] & 255);
    }

    public int byteOf(int roll, int strip, int i) {
        Strip at = stripAt(roll, strip);
        if (at == null) return refuse(BAD);
        if (at.lost) return found(LOST);
        if (i < 0 || i >= at.length) return found(TORN);
        return done(at.bytes[i] & 255);
    }

    public long head(int roll, int strip, int what) {
        Strip at = stripAt(roll, strip);
        if (at == null || what < 0 || what > 3) return refuseLong(BAD);
        if (at.lost) return refuseLong(LOST);
        int from = what == 0 ? 0 : what == 1 ? HEAD_NUMBER : what == 2 ? HEAD_LENGTH : HEAD_SUM;
        int n = what == 0 ? 1 : what == 3 ? 4 : 2;
        if (at.length < from + n) return refuseLong(TORN);
        return doneLong(at.numberAt(from, n));
    }

    public long sum(int roll, int strip) {
        Strip at = stripAt(roll, strip);
        if (at == null) return refuseLong(BAD);
        if (at.lost) return refuseLong(LOST);
        if (at.length < HEAD_SUM) return refuseLong(TORN);
        return doneLong(at.sumNow());
    }

    public int read(int roll, int strip) {
        Strip at = stripAt(roll, strip);
        if (at == null) return refuse(BAD);
        int verdict = at.verdict();
        return verdict == WHOLE ? done(at.elements()) : found(verdict);
    }

    public int whole(int roll) {
        Roll of = rollAt(roll);
        if (of == null) return refuse(BAD);
        int n = 0;
        for (int place = 0; place < of.count; place++) {
            if (of.isWhole(place)) n++;
        }
        return done(n);
    }

    public int finding(int roll, int k) {
        Roll of = rollAt(roll);
        if (of == null || k < 0) return refuse(BAD);
        int met = 0;
        for (int place = 0; place < of.count; place++) {
            if (of.isWhole(place)) continue;
            if (met == k) return done(place);
            met++;
        }
        return nothingThere();
    }

    public int told(int roll, int strip, int what) {
        Strip at = stripAt(roll, strip);
        if (at == null || what < 0 || what > 3) return refuse(BAD);
        return done(what == 0 ? at.kind : what == 1 ? at.number : what == 2 ? at.ticks : at.elements());
    }

    // ---- instruments

    public int instrument(int kind) {
        if (kind < PIPE || kind > COUPLER) return refuse(BAD);
        if (organ.playing) return refuse(BUSY);
        if (organ.instrumentCount >= MOST_INSTRUMENTS) return refuse(FULL);
        return done(organ.addInstrument(kind));
    }

    public int couple(int coupler, int member) {
        Instrument over = organ.instrumentAt(coupler);
        Instrument under = organ.instrumentAt(member);
        if (over == null || under == null) return refuse(BAD);
        if (under.timesWithin(coupler, MOST_SIZE) > 0) return refuse(BAD);
        if (organ.playing) return refuse(BUSY);
        if (over instanceof Coupler to) {
            if (to.memberCount >= MOST_MEMBERS || !organ.grow(coupler, under.size)) return refuse(FULL);
            to.append(under);
            return done(to.memberCount);
        }
        return found(KIND);
    }

    public int chest(int kind, int n) {
        if (kind < PIPE || kind > ANY) return refuse(BAD);
        if (organ.playing) return refuse(BUSY);
        if (organ.chestCount >= MOST_CHESTS || n > MOST_PLACES - organ.placeCount()) return refuse(FULL);
        if (n < 0) return found(SIZE);
        return done(organ.addChest(kind, n));
    }

    public int place(int chest, int i, int instrument) {
        Instrument it = organ.instrumentAt(instrument);
        if (!organ.hasChest(chest) || it == null && instrument != -1) return refuse(BAD);
        if (organ.playing) return refuse(BUSY);
        int at = organ.whereIs(chest, i);
        if (at < 0) return found(TORN);
        if (it != null && !it.isOf(organ.chestKinds[chest])) return found(STORE);
        organ.places[at] = instrument;
        return done(1);
    }

    public int wire(int track, int chest, int i) {
        if (track < 0 || track >= TRACKS) return refuse(BAD);
        if (chest != -1 && !organ.hasChest(chest)) return refuse(BAD);
        if (organ.playing) return refuse(BUSY);
        organ.wireChests[track] = chest;
        organ.wirePlaces[track] = i;
        return done(1);
    }

    public int spoil(int instrument, int n) {
        if (organ.instrumentAt(instrument) == null || n < 0 || n > MOST_SPOIL) return refuse(BAD);
        if (organ.playing) return refuse(BUSY);
        int had = organ.now[NOW_SPOIL + instrument];
        organ.now[NOW_SPOIL + instrument] = n;
        return done(had);
    }

    public int tune(int instrument, int p, int q) {
        Instrument it = organ.instrumentAt(instrument);
        if (it == null || p < 0 || p > MOST_RATIO || q < 0 || q > MOST_RATIO) return refuse(BAD);
        if (q == 0 && p != 0) return refuse(BAD);
        if (organ.playing) return refuse(BUSY);
        if (it.kind == DRUM || it.kind == COUPLER) return found(KIND);
        it.p = p;
        it.q = q;
        return done(q == 0 ? 0 : 1);
    }

    public int base(int v) {
        if (v < 1 || v > MOST_BASE) return refuse(BAD);
        if (organ.playing) return refuse(BUSY);
        organ.baseSixteenths = v;
        return done(1);
    }

    public long frequency(int instrument) {
        Instrument it = organ.instrumentAt(instrument);
        if (it == null) return refuseLong(BAD);
        if (it.kind == DRUM) return refuseLong(KIND);
        return doneLong(bitsOf(organ.pitchOf(it)));
    }

    /** Double.doubleToLongBits is not among the library that LANGUAGE.md leaves; below 0 stands for no number. */
    private static long bitsOf(double pitch) {
        if (pitch < 0.0) return 0x7ff8000000000000L;
        if (pitch == 0.0) return 0L;
        double part = pitch;
        long exponent = 1023;
        for (int i = 0; i < 1023 && part >= 2.0; i++) {
            part = part / 2.0;
            exponent++;
        }
        for (int i = 0; i < 1022 && part < 1.0; i++) {
            part = part * 2.0;
            exponent--;
        }
        return exponent << 52 | (long) ((part - 1.0) * 4503599627370496.0);
    }

    public int mute(int instrument) {
        Instrument it = organ.instrumentAt(instrument);
        if (it == null) return refuse(BAD);
        if (it.kind == DRUM) return found(KIND);
        return done(organ.pitchOf(it) < 0.0 ? 1 : 0);
    }

    public int higher(int one, int other) {
        Instrument first = organ.instrumentAt(one);
        Instrument second = organ.instrumentAt(other);
        if (first == null || second == null) return refuse(BAD);
        if (first.kind == DRUM || second.kind == DRUM) return found(KIND);
        double a = organ.pitchOf(first);
        double b = organ.pitchOf(second);
        if (a < 0.0 || b < 0.0) return done(0);
        return done(a > b ? 1 : a < b ? 3 : 2);
    }

    // ---- playing

    public int play(int roll) {
        Roll at = rollAt(roll);
        if (at == null) return refuse(BAD);
        if (organ.playing) return refuse(BUSY);
        organ.begin(at);
        return done(at.count);
    }

    public int tick(int n) {
        if (n < 0 || n > MOST_AT_ONCE) return refuse(BAD);
        if (!organ.playing) return nothingThere();
        int went = 0;
        while (went < n && organ.ticksUsed < MOST_TICKS && organ.reachStrip()) {
            organ.passTick();
            went++;
        }
        return done(went);
    }

    public int halt() {
        if (!organ.playing) return nothingThere();
        int sounded = organ.now[NOW_SOUNDS];
        organ.silence();
        organ.playing = false;
        return done(sounded);
    }

    public int back(int n) {
        if (n < 0 || n > MOST_AT_ONCE) return refuse(BAD);
        if (!organ.playing || !organ.goBack(n)) return nothingThere();
        return done(organ.now[NOW_GONE]);
    }

    public int open(int track) {
        if (track < 0 || track >= TRACKS) return refuse(BAD);
        if (!organ.isOpen(track)) return nothingThere();
        return done(organ.countOfTrack(track));
    }

    public int sounding(int k, int what) {
        if (k < 0 || what < 0 || what > 2) return refuse(BAD);
        if (k >= organ.now[NOW_SOUNDS]) return nothingThere();
        int sound = organ.soundAt(k);
        if (what == 0) return done(Organ.instrumentOf(sound));
        return done(what == 1 ? Organ.trackOf(sound) : organ.ageOf(sound));
    }

    public int loud(int k) {
        if (k < 0) return refuse(BAD);
        if (k >= organ.now[NOW_SOUNDS]) return nothingThere();
        int sound = organ.soundAt(k);
        Instrument it = organ.instrumentAt(Organ.instrumentOf(sound));
        if (it == null) return nothingThere();
        if (it.kind != DRUM && organ.pitchOf(it) < 0.0) return done(0);
        int level = organ.now[NOW_LEVELS + Organ.trackOf(sound)];
        int drawn = Integer.bitCount(organ.now[NOW_STOPS]);
        return done(it.loudness(level, organ.ageOf(sound), drawn, organ.traces));
    }

    public int level(int track) {
        if (track < 0 || track >= TRACKS) return refuse(BAD);
        return done(organ.now[NOW_LEVELS + track]);
    }

    public int stop(int chest) {
        if (chest < 0 || chest >= MOST_CHESTS) return refuse(BAD);
        return done(organ.now[NOW_STOPS] >> chest & 1);
    }

    public int at(int what) {
        if (what < 0 || what > 8) return refuse(BAD);
        if (what == 8) return done(organ.ticksUsed);
        if (what == 7) return done(organ.playing ? 1 : 0);
        return done(organ.now[what]);
    }

    public int times(int instrument, int what) {
        if (organ.instrumentAt(instrument) == null || what < 0 || what > 1) return refuse(BAD);
        return done(organ.now[(what == 0 ? NOW_OPENED : NOW_ENDED) + instrument]);
    }

    public int event(int k, int what) {
        if (k < 0 || what < 0 || what > 3) return refuse(BAD);
        if (k >= MOST_EVENTS || k >= organ.now[NOW_EVENTS]) return nothingThere();
        return done(organ.events[4 * k + what]);
    }

    // ---- editing

    public int cut(int roll, int k) {
        Roll from = rollAt(roll);
        if (from == null || k < 0 || k > from.count) return refuse(BAD);
        if (organ.playing) return refuse(BUSY);
        if (rollCount >= MOST_ROLLS) return refuse(FULL);
        rolls[rollCount] = from.splitAt(k);
        rollCount++;
        return done(rollCount - 1);
    }

    public int join(int roll, int other) {
        Roll to = rollAt(roll);
        Roll from = rollAt(other);
        if (to == null || from == null || roll == other) return refuse(BAD);
        if (organ.playing) return refuse(BUSY);
        return addCopies(to, to.count, from, 0, from.count);
    }

    public int repeat(int roll, int i, int n) {
        Roll of = rollAt(roll);
        if (of == null || n < 0 || n > MOST_AT_A_TIME) return refuse(BAD);
        if (i < 0 || i > of.count - n) return refuse(BAD);
        if (organ.playing) return refuse(BUSY);
        return addCopies(of, i + n, of, i, n);
    }

    /** Copies of n STRIPS of a ROLL, from place i on, come to place at of a ROLL (never amid those n). */
    private int addCopies(Roll to, int at, Roll from, int i, int n) {
        int more = from.elementsIn(i, n);
        if (stripCount + n > MOST_STRIPS || tooManyElements(more)) return refuse(FULL);
        to.makeRoom(at, n);
        for (int k = 0; k < n; k++) {
            Strip one = from.stripAt(i + k);
            if (one != null) to.put(at + k, one.twin());
        }
        stripCount += n;
        elementCount += more;
        return done(to.count);
    }

    public int move(int roll, int i, int n, int to, int j) {
        Roll from = rollAt(roll);
        Roll into = rollAt(to);
        if (from == null || into == null || n < 0 || n > MOST_AT_A_TIME) return refuse(BAD);
        if (organ.playing) return refuse(BUSY);
        int came = 0;
        int why = 0;
        while (came < n && why == 0) {
            why = moveOne(from.stripAt(i + came), into.stripAt(j + came));
            if (why == 0) came++;
        }
        latest = why;
        return came;
    }

    private int moveOne(Strip from, Strip to) {
        if (from == null || to == null) return TORN;
        if (from.lost || to.lost) return LOST;
        if (from.kind != to.kind) return KIND;
        return replaceBytes(to, from) ? 0 : FULL;
    }

    private boolean replaceBytes(Strip to, Strip from) {
        int more = from.elements() - to.elements();
        if (tooManyElements(more)) return false;
        to.takeBytes(from);
        elementCount += more;
        return true;
    }

    public int copy(int roll, int strip, int from, int n, int to, int other, int at) {
        Strip source = stripAt(roll, strip);
        Strip target = stripAt(to, other);
        if (source == null || target == null) return refuse(BAD);
        if (organ.playing) return refuse(BUSY);
        if (source.lost || target.lost) return found(LOST);
        if (source.kind != target.kind) return found(KIND);
        if (!source.hasSpan(from, n) || !target.hasSpan(at, n)) return found(SPAN);
        target.takeElements(at, source, from, n);
        return done(n);
    }

    public int transpose(int roll, int strip, int n) {
        Strip at = stripAt(roll, strip);
        if (at == null || n < -MOST_SHIFT || n > MOST_SHIFT) return refuse(BAD);
        if (organ.playing) return refuse(BUSY);
        if (at.kind != HOLES) return found(KIND);
        int verdict = at.verdict();
        if (verdict != WHOLE) return found(verdict);
        fallCount = 0;
        for (int k = 0; k < at.elements(); k++) {
            int holes = at.elementAt(k) & 255;
            noteFallen(k, holes, n);
            at.putElement(k, n < 0 ? holes >> -n : holes << n);
        }
        at.writeHead();
        return done(fallCount);
    }

    private void noteFallen(int element, int holes, int n) {
        for (int track = 0; track < TRACKS; track++) {
            boolean off = track + n < 0 || track + n >= TRACKS;
            if (off && (holes >> track & 1) == 1 && fallCount < MOST_FALLEN) {
                fallOff[fallCount] = element * TRACKS + track;
                fallCount++;
            }
        }
    }

    public int fallen(int k, int what) {
        if (k < 0 || what < 0 || what > 1) return refuse(BAD);
        if (k >= fallCount || k >= MOST_FALLEN) return nothingThere();
        return done(what == 0 ? fallOff[k] / TRACKS : fallOff[k] % TRACKS);
    }

    public int mend(int roll, int strip, int other) {
        Strip at = stripAt(roll, strip);
        Roll from = rollAt(other);
        if (at == null || from == null) return refuse(BAD);
        if (organ.playing) return refuse(BUSY);
        if (at.verdict() == WHOLE) return done(strip);
        for (int place = 0; place < from.count; place++) {
            Strip one = from.stripAt(place);
            if (one == null || one.kind != at.kind || one.number != at.number) continue;
            if (one.verdict() == WHOLE) return replaceBytes(at, one) ? done(place) : refuse(FULL);
        }
        return nothingThere();
    }

    public int equal(int roll, int other) {
        Roll one = rollAt(roll);
        Roll two = rollAt(other);
        if (one == null || two == null) return refuse(BAD);
        if (one.count != two.count) return done(0);
        for (int place = 0; place < one.count; place++) {
            Strip a = one.stripAt(place);
            Strip b = two.stripAt(place);
            if (a == null || b == null || !a.isLike(b)) return done(0);
        }
        return done(1);
    }

    public long digest(int roll) {
        Roll of = rollAt(roll);
        if (of == null) return refuseLong(BAD);
        int s = 7;
        for (int place = 0; place < of.count; place++) {
            Strip one = of.stripAt(place);
            if (one != null) s = one.digestOnto(s);
        }
        return doneLong(s);
    }

    // ---- what is told

    public int count(int what) {
        switch (what) {
            case 0: return done(rollCount);
            case 1: return done(organ.instrumentCount);
            case 2: return done(organ.chestCount);
            case 3: return done(organ.now[NOW_EVENTS]);
            case 4: return done(organ.now[NOW_SOUNDS]);
            case 5: return done(fallCount);
            case 6: return done(elementCount);
            case 7: return done(organ.placeCount());
            default: return refuse(BAD);
        }
    }

    public int strips(int roll) {
        Roll of = rollAt(roll);
        return of == null ? refuse(BAD) : done(of.count);
    }

    public int members(int coupler) {
        Instrument it = organ.instrumentAt(coupler);
        if (it == null) return refuse(BAD);
        if (it instanceof Coupler of) return done(of.memberCount);
        return found(KIND);
    }

    public int trace(int b) {
        if (b < 0 || b >= BODIES) return refuse(BAD);
        return done(organ.traces[b]);
    }

    public int status() {
        return latest;
    }

    /** A STRIP: what THE LIST tells of it, and its BYTES, if it is not LOST. */
    private static final class Strip {
        final int kind;
        final int number;
        final int ticks;
        final int widthBits;
        byte[] bytes;
        int length;
        boolean lost = false;

        Strip(int kind, int number, int ticks, int n) {
            int elements = Math.max(0, Math.min(n, MOST_IN_ROW));
            this.kind = kind;
            this.number = number;
            this.ticks = ticks;
            this.widthBits = kind == HOLES ? 0 : kind == TEMPO ? 2 : 1;
            this.length = HEAD + (elements << widthBits);
            this.bytes = new byte[length];
        }

        int elements() {
            return length > HEAD ? length - HEAD >> widthBits : 0;
        }

        /** With sign, the highest byte first; the caller knows that these bytes are there. */
        int numberAt(int from, int n) {
            int value = 0;
            for (int i = from; i < from + n && i < bytes.length; i++) {
                value = i == from ? bytes[i] : value << 8 | bytes[i] & 255;
            }
            return value;
        }

        void writeNumber(int from, int n, int v) {
            int rest = v;
            for (int i = from + n - 1; i >= from && i < bytes.length; i--) {
                bytes[i] = (byte) rest;
                rest = rest >> 8;
            }
        }

        int elementAt(int k) {
            int value = numberAt(HEAD + (k << widthBits), 1 << widthBits);
            return kind == STOPS ? value & 65535 : value;
        }

        void putElement(int k, int v) {
            writeNumber(HEAD + (k << widthBits), 1 << widthBits, v);
        }

        int sumNow() {
            int s = 1;
            for (int i = 0; i < length; i++) {
                if (i < HEAD_SUM || i >= HEAD) s = s * 31 + bytes[i];
            }
            return s;
        }

        void writeHead() {
            length = Math.max(length, HEAD);
            writeNumber(0, 1, kind);
            writeNumber(HEAD_NUMBER, 2, number);
            writeNumber(HEAD_LENGTH, 2, elements());
            writeNumber(HEAD_SUM, 4, sumNow());
        }

        /** What is met when it is READ. */
        int verdict() {
            if (lost) return LOST;
            if (length < HEAD) return TORN;
            if (numberAt(0, 1) != kind) return KIND;
            int told = numberAt(HEAD_LENGTH, 2);
            if (told > elements()) return LONG;
            if (told < 0) return SIZE;
            if (told < elements()) return SHORT;
            return numberAt(HEAD_SUM, 4) == sumNow() ? WHOLE : SUM;
        }

        void dropAll() {
            lost = true;
            length = 0;
        }

        void keepFirst(int n) {
            if (n >= length) return;
            length = n <= HEAD ? n : HEAD + (n - HEAD >> widthBits << widthBits);
        }

        /** A longer row is made but once, at its greatest: what is made is counted. */
        void takeBytes(Strip from) {
            if (from.length > bytes.length) bytes = new byte[HEAD + (MOST_IN_ROW << widthBits)];
            length = Math.min(from.length, bytes.length);
            System.arraycopy(from.bytes, 0, bytes, 0, length);
            lost = from.lost;
        }

        Strip twin() {
            Strip made = new Strip(kind, number, ticks, elements());
            made.takeBytes(this);
            return made;
        }

        boolean hasSpan(int from, int n) {
            return n >= 0 && from >= 0 && from <= elements() - n;
        }

        /** The caller knows that both spans are there and that both are of one KIND. */
        void takeElements(int at, Strip source, int from, int n) {
            System.arraycopy(source.bytes, HEAD + (from << widthBits),
                    bytes, HEAD + (at << widthBits), n << widthBits);
        }

        boolean isLike(Strip other) {
            if (kind != other.kind || number != other.number || ticks != other.ticks) return false;
            if (lost != other.lost || length != other.length) return false;
            for (int i = 0; i < length; i++) {
                if (bytes[i] != other.bytes[i]) return false;
            }
            return true;
        }

        int digestOnto(int before) {
            int s = before * 31 + kind;
            s = s * 31 + number;
            s = s * 31 + ticks;
            for (int i = 0; i < length; i++) s = s * 31 + bytes[i];
            return s;
        }
    }

    /** A ROLL: its STRIPS in order. */
    private static final class Roll {
        final Strip[] strips = new Strip[MOST_STRIPS];
        int count = 0;

        Strip stripAt(int place) {
            return place >= 0 && place < count && place < MOST_STRIPS ? strips[place] : null;
        }

        boolean isWhole(int place) {
            Strip one = stripAt(place);
            return one != null && one.verdict() == WHOLE;
        }

        void append(Strip one) {
            if (count >= MOST_STRIPS) return;
            strips[count] = one;
            count++;
        }

        void put(int place, Strip one) {
            if (place >= 0 && place < count && place < MOST_STRIPS) strips[place] = one;
        }

        /** Those from place at on go n places on; what stands in the gap is to be put anew. */
        void makeRoom(int at, int n) {
            if (at < 0 || n < 0 || n > MOST_STRIPS - count) return;
            for (int place = count - 1; place >= at; place--) strips[place + n] = strips[place];
            count += n;
        }

        int elementsIn(int from, int n) {
            int sum = 0;
            for (int k = 0; k < n; k++) {
                Strip one = stripAt(from + k);
                if (one != null) sum += one.elements();
            }
            return sum;
        }

        Roll splitAt(int k) {
            Roll rest = new Roll();
            int from = Math.max(k, 0);
            for (int place = from; place < count; place++) rest.append(stripAt(place));
            count = Math.min(from, count);
            return rest;
        }
    }

    /** An INSTRUMENT. Each method that is a BODY begins by counting itself. */
    private abstract static class Instrument {
        final int number;
        final int kind;
        int size = 1;
        int p = 1;
        int q = 1;

        Instrument(int number, int kind) {
            this.number = number;
            this.kind = kind;
        }

        abstract int loudness(int level, int age, int drawn, int[] traces);

        /** FREQUENCY; below 0 stands for no number, as no act on doubles may answer NaN. */
        double pitch(double base, int[] traces, int depth) {
            return -1.0;
        }

        double ratioOf(double base) {
            return q == 0 ? -1.0 : base * ((double) p / (double) q);
        }

        boolean isOf(int wanted) {
            if (wanted == ANY || wanted == kind) return true;
            if (wanted == PIPE) return kind == REED || kind == BASS;
            if (wanted == REED) return kind == BASS;
            return wanted == PLUCKED && kind == BELL;
        }

        /** How often an INSTRUMENT is this one, or a MEMBER, or a MEMBER's, and so on. */
        int timesWithin(int wanted, int depth) {
            return number == wanted ? 1 : 0;
        }
    }

    private static class Pipe extends Instrument {
        Pipe(int number, int kind) {
            super(number, kind);
        }

        int air(int drawn, int[] traces) {
            traces[AIR_PIPE]++;
            return 3 + drawn;
        }

        int loudness(int level, int age, int drawn, int[] traces) {
            traces[LOUD_PIPE]++;
            return level + air(drawn, traces);
        }

        double pitch(double base, int[] traces, int depth) {
            traces[PITCH_PIPE]++;
            return ratioOf(base);
        }
    }

    private static class Reed extends Pipe {
        Reed(int number, int kind) {
            super(number, kind);
        }

        int loudness(int level, int age, int drawn, int[] traces) {
            traces[LOUD_REED]++;
            return super.loudness(level, age, drawn, traces) + 7;
        }

        double pitch(double base, int[] traces, int depth) {
            traces[PITCH_REED]++;
            double asPipe = super.pitch(base, traces, depth);
            return asPipe < 0.0 ? asPipe : asPipe / 2.0;
        }
    }

    private static final class Bass extends Reed {
        Bass(int number) {
            super(number, BASS);
        }

        int air(int drawn, int[] traces) {
            traces[AIR_BASS]++;
            return 2 * super.air(drawn, traces);
        }

        double pitch(double base, int[] traces, int depth) {
            traces[PITCH_BASS]++;
            double asReed = super.pitch(base, traces, depth);
            return asReed < 0.0 ? asReed : (double) (long) (asReed * 4.0) / 4.0;
        }
    }

    private static final class Drum extends Instrument {
        Drum(int number) {
            super(number, DRUM);
        }

        int loudness(int level, int age, int drawn, int[] traces) {
            traces[LOUD_DRUM]++;
            return age == 0 ? 2 * level : 0;
        }
    }

    private static class Plucked extends Instrument {
        Plucked(int number, int kind) {
            super(number, kind);
        }

        int loudness(int level, int age, int drawn, int[] traces) {
            traces[LOUD_PLUCKED]++;
            return Math.max(0, level - 5 * age);
        }

        double pitch(double base, int[] traces, int depth) {
            traces[PITCH_PLUCKED]++;
            double plain = ratioOf(base);
            return plain < 0.0 ? plain : nearest(plain * 8.0) / 8.0;
        }

        /** As Math.rint: of two as near the even one. Pitches are small, so a long holds each. */
        private static double nearest(double x) {
            long below = (long) x;
            double rest = x - (double) below;
            boolean up = rest > 0.5 || rest == 0.5 && (below & 1L) == 1L;
            return (double) (up ? below + 1L : below);
        }
    }

    private static final class Bell extends Plucked {
        Bell(int number) {
            super(number, BELL);
        }

        int loudness(int level, int age, int drawn, int[] traces) {
            traces[LOUD_BELL]++;
            return super.loudness(level, age / 4, drawn, traces) + 1;
        }

        double pitch(double base, int[] traces, int depth) {
            traces[PITCH_BELL]++;
            double asPlucked = super.pitch(base, traces, depth);
            return asPlucked < 0.0 ? asPlucked : (double) (long) asPlucked + 0.25;
        }
    }

    private static final class Coupler extends Instrument {
        final Instrument[] parts = new Instrument[MOST_MEMBERS];
        int memberCount = 0;

        Coupler(int number) {
            super(number, COUPLER);
        }

        Instrument partAt(int k) {
            return k >= 0 && k < memberCount && k < MOST_MEMBERS ? parts[k] : null;
        }

        void append(Instrument one) {
            if (memberCount >= MOST_MEMBERS) return;
            parts[memberCount] = one;
            memberCount++;
        }

        int loudness(int level, int age, int drawn, int[] traces) {
            traces[LOUD_COUPLER]++;
            return 0;
        }

        double pitch(double base, int[] traces, int depth) {
            traces[PITCH_COUPLER]++;
            double greatest = -1.0;
            for (int k = 0; k < memberCount && depth > 0; k++) {
                Instrument part = partAt(k);
                double one = part == null ? -1.0 : part.pitch(base, traces, depth - 1);
                if (one > greatest) greatest = one;
            }
            return greatest;
        }

        int timesWithin(int wanted, int depth) {
            int n = number == wanted ? 1 : 0;
            for (int k = 0; k < memberCount && depth > 0; k++) {
                Instrument part = partAt(k);
                if (part != null) n += part.timesWithin(wanted, depth - 1);
            }
            return n;
        }
    }

    /**
     * The INSTRUMENTS with their CHESTS and WIRES, and what is PLAYED on them. All that back() brings
     * again stands in one row of numbers, so that to keep it is to copy that row.
     */
    private static final class Organ {
        final Instrument[] instruments = new Instrument[MOST_INSTRUMENTS];
        final int[] chestKinds = new int[MOST_CHESTS];
        final int[] chestStarts = new int[MOST_CHESTS + 1];
        final int[] places = new int[MOST_PLACES];
        final int[] wireChests = {-1, -1, -1, -1, -1, -1, -1, -1};
        final int[] wirePlaces = new int[TRACKS];
        final int[] traces = new int[BODIES];
        final int[] now = new int[NOW_LENGTH];
        final int[][] kept = new int[KEPT][];
        final int[] events = new int[4 * MOST_EVENTS];
        int instrumentCount = 0;
        int chestCount = 0;
        int baseSixteenths = 440 * 16;
        int oldestKept = 0;
        int ticksUsed = 0;
        boolean playing = false;
        Roll played = null;

        Organ() {
            now[NOW_PLACE] = NONE;
        }

        // ---- what it is made of

        Instrument instrumentAt(int instrument) {
            if (instrument < 0 || instrument >= MOST_INSTRUMENTS) return null;
            return instruments[instrument];
        }

        int addInstrument(int kind) {
            int number = instrumentCount;
            if (number < 0 || number >= MOST_INSTRUMENTS) return FULL;
            instruments[number] = made(number, kind);
            instrumentCount++;
            return number;
        }

        private static Instrument made(int number, int kind) {
            switch (kind) {
                case PIPE: return new Pipe(number, PIPE);
                case REED: return new Reed(number, REED);
                case BASS: return new Bass(number);
                case DRUM: return new Drum(number);
                case PLUCKED: return new Plucked(number, PLUCKED);
                case BELL: return new Bell(number);
                default: return new Coupler(number);
            }
        }

        /** All SIZES with this COUPLER in them grow by its new MEMBER's; false, if one would be too great. */
        boolean grow(int coupler, int more) {
            for (int i = 0; i < instrumentCount; i++) {
                Instrument one = instrumentAt(i);
                if (one != null && one.size + one.timesWithin(coupler, MOST_SIZE) * more > MOST_SIZE) return false;
            }
            for (int i = 0; i < instrumentCount; i++) {
                Instrument one = instrumentAt(i);
                if (one != null) one.size += one.timesWithin(coupler, MOST_SIZE) * more;
            }
            return true;
        }

        double pitchOf(Instrument it) {
            return it.pitch((double) baseSixteenths / 16.0, traces, MOST_SIZE);
        }

        boolean hasChest(int chest) {
            return chest >= 0 && chest < chestCount && chest < MOST_CHESTS;
        }

        int placeCount() {
            return chestStarts[Math.max(0, Math.min(chestCount, MOST_CHESTS))];
        }

        int addChest(int kind, int n) {
            int chest = chestCount;
            int start = placeCount();
            if (chest < 0 || chest >= MOST_CHESTS || n < 0 || n > MOST_PLACES - start) return FULL;
            chestKinds[chest] = kind;
            chestStarts[chest + 1] = start + n;
            for (int at = start; at < start + n; at++) places[at] = -1;
            chestCount++;
            return chest;
        }

        /** Where PLACE i of a CHEST stands among all PLACES; -1: there is no such one. */
        int whereIs(int chest, int i) {
            if (!hasChest(chest) || i < 0) return -1;
            return i < chestStarts[chest + 1] - chestStarts[chest] ? chestStarts[chest] + i : -1;
        }

        // ---- THOSE THAT SOUND, each in one number: TICKS GONE when it was OPENED, TRACK, INSTRUMENT

        static int instrumentOf(int sound) {
            return sound & 63;
        }

        static int trackOf(int sound) {
            return sound >> 6 & 7;
        }

        int ageOf(int sound) {
            return now[NOW_GONE] - (sound >> 9);
        }

        int soundAt(int k) {
            return k >= 0 && k < MOST_SOUNDING ? now[NOW_FIRST_SOUND + k] : 0;
        }

        int countOfTrack(int track) {
            int n = 0;
            for (int k = 0; k < now[NOW_SOUNDS]; k++) {
                if (trackOf(soundAt(k)) == track) n++;
            }
            return n;
        }

        boolean isOpen(int track) {
            return (now[NOW_HOLES] >> track & 1) == 1;
        }

        private void log(int sort, int what, int rest) {
            int k = now[NOW_EVENTS];
            if (k >= 0 && k < MOST_EVENTS) {
                events[4 * k] = sort;
                events[4 * k + 1] = now[NOW_GONE];
                events[4 * k + 2] = what;
                events[4 * k + 3] = rest;
            }
            now[NOW_EVENTS] = k + 1;
        }

        /** TO OPEN an INSTRUMENT: whether it could; it is SPOILT, if not. */
        private boolean startSound(Instrument it, int track, int depth) {
            traces[OPEN_ANY]++;
            if (it instanceof Coupler) traces[OPEN_COUPLER]++;
            int left = now[NOW_SPOIL + it.number];
            if (left > 0) now[NOW_SPOIL + it.number] = left - 1;
            int first = now[NOW_SOUNDS];
            if (left == 1 || depth < 0 || first < 0 || first >= MOST_SOUNDING) return false;
            now[NOW_FIRST_SOUND + first] = now[NOW_GONE] << 9 | track << 6 | it.number;
            now[NOW_SOUNDS] = first + 1;
            now[NOW_OPENED + it.number]++;
            log(OPENED, it.number, track);
            if (it instanceof Coupler over) {
                for (int k = 0; k < over.memberCount; k++) {
                    Instrument part = over.partAt(k);
                    if (part == null || !startSound(part, track, depth - 1)) {
                        endDownTo(first);
                        return false;
                    }
                }
            }
            return true;
        }

        private void noteEnd(int sound) {
            traces[END_ANY]++;
            now[NOW_ENDED + Math.min(instrumentOf(sound), MOST_INSTRUMENTS - 1)]++;
            log(ENDED, instrumentOf(sound), trackOf(sound));
        }

        private void endDownTo(int first) {
            for (int k = now[NOW_SOUNDS] - 1; k >= first; k--) noteEnd(soundAt(k));
            now[NOW_SOUNDS] = first;
        }

        private void endTrack(int track) {
            for (int k = now[NOW_SOUNDS] - 1; k >= 0; k--) {
                if (trackOf(soundAt(k)) == track) noteEnd(soundAt(k));
            }
            int stay = 0;
            for (int k = 0; k < now[NOW_SOUNDS]; k++) {
                int sound = soundAt(k);
                if (trackOf(sound) == track) continue;
                now[NOW_FIRST_SOUND + stay] = sound;
                stay++;
            }
            now[NOW_SOUNDS] = stay;
        }

        void silence() {
            endDownTo(0);
            now[NOW_HOLES] = 0;
        }

        // ---- a ROLL

        void begin(Roll roll) {
            for (int i = 0; i < NOW_SPOIL; i++) now[i] = 0;
            for (int i = NOW_OPENED; i < NOW_FIRST_SOUND; i++) now[i] = 0;
            for (int track = 0; track < TRACKS; track++) now[NOW_LEVELS + track] = 1000;
            now[NOW_STOPS] = (1 << MOST_CHESTS) - 1;
            now[NOW_TEMPO] = 24;
            now[NOW_PLACE] = NONE;
            played = roll;
            playing = true;
            oldestKept = 0;
            keep();
        }

        private void keep() {
            int gone = now[NOW_GONE];
            int slot = Math.floorMod(gone, KEPT);
            int[] row = kept[slot];
            if (row == null) {
                row = new int[NOW_LENGTH];
                kept[slot] = row;
            }
            System.arraycopy(now, 0, row, 0, usedOf(now));
            oldestKept = Math.max(oldestKept, gone - MOST_AT_ONCE);
        }

        /** Behind the last that sounds a state has nothing that is ever looked at. */
        private static int usedOf(int[] state) {
            return NOW_FIRST_SOUND + Math.max(0, Math.min(state[NOW_SOUNDS], MOST_SOUNDING));
        }

        /** Whether that is kept; then all is as it was n TICKS ago. */
        boolean goBack(int n) {
            int to = now[NOW_GONE] - n;
            int[] row = kept[Math.floorMod(to, KEPT)];
            if (to < oldestKept || row == null) return false;
            System.arraycopy(row, 0, now, 0, usedOf(row));
            return true;
        }

        /** (a) of a TICK: whether a STRIP with a TICK to come is at hand; THE ROLL IS OVER, if not. */
        boolean reachStrip() {
            for (int left = MOST_STRIPS; left >= 0 && played != null; left--) {
                Strip at = played.stripAt(now[NOW_PLACE]);
                if (at != null && now[NOW_OVER] < at.ticks) return true;
                int place = at == null ? 0 : now[NOW_PLACE] + 1;
                Strip next = played.stripAt(place);
                if (next == null) break;
                beginStrip(next, place);
                int atOnce = next.ticks == 0 && now[NOW_WHOLE] == 1 ? next.elements() : 0;
                for (int k = 0; k < atOnce; k++) doElement(next, k);
            }
            silence();
            playing = false;
            return false;
        }

        private void beginStrip(Strip next, int place) {
            int verdict = next.verdict();
            now[NOW_PLACE] = place;
            now[NOW_OVER] = 0;
            now[NOW_WHOLE] = verdict == WHOLE ? 1 : 0;
            log(STRIP_BEGAN, place, verdict);
            if (verdict != WHOLE) silence();
        }

        /** (b) to (d) of a TICK. */
        void passTick() {
            Strip at = played == null ? null : played.stripAt(now[NOW_PLACE]);
            int over = now[NOW_OVER];
            if (at != null && now[NOW_WHOLE] == 1 && over < at.elements()) doElement(at, over);
            now[NOW_OVER] = over + 1;
            goOnWithTempo();
            now[NOW_PHASE]++;
            if (now[NOW_PHASE] >= now[NOW_TEMPO]) {
                now[NOW_PHASE] = 0;
                now[NOW_BEAT]++;
            }
            now[NOW_GONE]++;
            ticksUsed++;
            keep();
        }

        private void doElement(Strip of, int k) {
            int e = of.elementAt(k);
            switch (of.kind) {
                case HOLES:
                    for (int track = 0; track < TRACKS; track++) doHole(track, (e >> track & 1) == 1);
                    break;
                case LEVELS:
                    for (int track = 0; track < TRACKS; track++) {
                        if (e < 0 || (e >> 12 & 7) == track) now[NOW_LEVELS + track] = e & 4095;
                    }
                    break;
                case STOPS:
                    if (e >= 'A' && e <= 'P') now[NOW_STOPS] |= 1 << e - 'A';
                    if (e >= 'a' && e <= 'p') now[NOW_STOPS] &= ~(1 << e - 'a');
                    break;
                default:
                    setTempo(e & 65535, e >>> 16);
            }
        }

        private void doHole(int track, boolean punched) {
            if (punched == isOpen(track)) return;
            now[NOW_HOLES] ^= 1 << track;
            if (!punched) {
                endTrack(track);
                return;
            }
            int chest = wireChests[track];
            if (chest < 0 || (now[NOW_STOPS] >> chest & 1) == 0) return;
            int at = whereIs(chest, wirePlaces[track]);
            Instrument it = at < 0 ? null : instrumentAt(places[at]);
            if (at < 0) log(HOLE_FAILED, track, TORN);
            else if (it == null) log(HOLE_FAILED, track, LOST);
            else if (!startSound(it, track, MOST_SIZE)) log(HOLE_FAILED, track, SPOILT);
        }

        private void setTempo(int target, int span) {
            if (target == 0) return;
            now[NOW_SPAN] = span;
            now[NOW_STEP] = 0;
            now[NOW_FROM] = now[NOW_TEMPO];
            now[NOW_TARGET] = target;
            if (span == 0) now[NOW_TEMPO] = target;
        }

        private void goOnWithTempo() {
            int span = now[NOW_SPAN];
            if (span <= 0 || now[NOW_STEP] >= span) return;
            now[NOW_STEP]++;
            long way = now[NOW_TARGET] - now[NOW_FROM];
            long gone = Math.floorDiv(way * now[NOW_STEP] * 2L + span, 2L * span);
            now[NOW_TEMPO] = now[NOW_FROM] + (int) gone;
        }
    }
}
