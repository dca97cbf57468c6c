import java.util.ArrayList;
import java.util.List;

/**
 * The document once more, written apart from the class and with all of Java's library: rows are made
 * anew whenever they change, no number is NaN, and each state that back() may need is a whole copy.
 * ModelTest asks both the same.
 */
public final class Model {
    static final int BAD = -1, FULL = -2, BUSY = -3, NONE = -4;

    static final class Strip {
        int kind, number, ticks;
        byte[] bytes; // null: LOST

        int width() {
            return new int[] {1, 2, 2, 4}[kind];
        }

        int elements() {
            return bytes == null || bytes.length < 9 ? 0 : (bytes.length - 9) / width();
        }

        int sum() {
            int s = 1;
            for (int i = 0; i < 5; i++) s = s * 31 + bytes[i];
            for (int i = 9; i < bytes.length; i++) s = s * 31 + bytes[i];
            return s;
        }

        int sumTold() {
            return (bytes[5] & 255) << 24 | (bytes[6] & 255) << 16 | (bytes[7] & 255) << 8 | bytes[8] & 255;
        }

        int lengthTold() {
            return (short) ((bytes[3] & 255) << 8 | bytes[4] & 255);
        }

        void seal() {
            int n = elements();
            byte[] anew = new byte[9 + n * width()];
            if (n > 0) System.arraycopy(bytes, 9, anew, 9, n * width());
            anew[0] = (byte) kind;
            anew[1] = (byte) (number / 256);
            anew[2] = (byte) (number % 256);
            anew[3] = (byte) (n / 256);
            anew[4] = (byte) (n % 256);
            bytes = anew;
            int s = sum();
            for (int i = 8; i >= 5; i--, s >>= 8) anew[i] = (byte) s;
        }

        int reading() {
            if (bytes == null) return 1;
            if (bytes.length < 9) return 2;
            if (bytes[0] != kind) return 5;
            if (lengthTold() > elements()) return 7;
            if (lengthTold() < 0) return 3;
            if (lengthTold() < elements()) return 8;
            return sumTold() == sum() ? 0 : 9;
        }

        int element(int k) {
            int v = 0;
            for (int i = 0; i < width(); i++) v = v << 8 | bytes[9 + k * width() + i] & 255;
            return kind == 0 ? (byte) v : kind == 1 ? (short) v : v;
        }

        Strip copy() {
            Strip s = new Strip();
            s.kind = kind;
            s.number = number;
            s.ticks = ticks;
            s.bytes = bytes == null ? null : bytes.clone();
            return s;
        }
    }

    static final class Instrument {
        int kind;
        double ratio = 1.0;
        List<Integer> members = new ArrayList<>();
    }

    static final class Chest {
        int kind;
        int[] places;
    }

    record Sound(int instrument, int track, int since) {
    }

    record Event(int sort, int gone, int what, int rest) {
    }

    static final class State {
        List<Sound> sounds = new ArrayList<>();
        List<Event> events = new ArrayList<>();
        int[] spoil = new int[60], opened = new int[60], ended = new int[60], levels = new int[8];
        boolean[] stops = new boolean[16], holes = new boolean[8];
        int tempo, beat, phase, gone, place = NONE, over;
        boolean whole;
        int from, target, span, step;

        State copy() {
            State s = new State();
            s.sounds = new ArrayList<>(sounds);
            s.events = new ArrayList<>(events);
            s.spoil = spoil.clone();
            s.opened = opened.clone();
            s.ended = ended.clone();
            s.levels = levels.clone();
            s.stops = stops.clone();
            s.holes = holes.clone();
            s.tempo = tempo;
            s.beat = beat;
            s.phase = phase;
            s.gone = gone;
            s.place = place;
            s.over = over;
            s.whole = whole;
            s.from = from;
            s.target = target;
            s.span = span;
            s.step = step;
            return s;
        }
    }

    private final List<List<Strip>> rolls = new ArrayList<>();
    private final List<Instrument> instruments = new ArrayList<>();
    private final List<Chest> chests = new ArrayList<>();
    private final List<int[]> fallen = new ArrayList<>();
    private final int[][] wires = new int[8][];
    private final int[] traces = new int[17];
    private double base = 440.0;
    private List<Strip> played = null;
    private State now = new State();
    private List<State> kept = new ArrayList<>();
    private int used = 0;
    private int status = 0;

    private int tell(int answer) {
        status = answer <= -11 ? -10 - answer : answer == BAD || answer == FULL || answer == BUSY ? answer : 0;
        return answer;
    }

    private long tellLong(int failure) {
        tell(failure);
        return 0;
    }

    private boolean noRoll(int r) {
        return r < 0 || r >= rolls.size();
    }

    private boolean noStrip(int r, int s) {
        return noRoll(r) || s < 0 || s >= rolls.get(r).size();
    }

    private boolean noInstrument(int i) {
        return i < 0 || i >= instruments.size();
    }

    private Strip get(int r, int s) {
        return rolls.get(r).get(s);
    }

    private int stripsInAll() {
        return rolls.stream().mapToInt(List::size).sum();
    }

    private int elementsInAll() {
        return rolls.stream().mapToInt(r -> r.stream().mapToInt(Strip::elements).sum()).sum();
    }

    private int placesInAll() {
        return chests.stream().mapToInt(c -> c.places.length).sum();
    }

    public int roll() {
        if (played != null) return tell(BUSY);
        if (rolls.size() == 20) return tell(FULL);
        rolls.add(new ArrayList<>());
        return tell(rolls.size() - 1);
    }

    public int strip(int roll, int kind, int number, int n, int ticks) {
        if (noRoll(roll) || kind < 0 || kind > 3 || number < 0 || number > 30000) return tell(BAD);
        if (ticks < 0 || ticks > 256 || n > 256) return tell(BAD);
        if (played != null) return tell(BUSY);
        if (stripsInAll() == 400 || n >= 0 && elementsInAll() + n > 8000) return tell(FULL);
        if (n < 0) return tell(-13);
        Strip s = new Strip();
        s.kind = kind;
        s.number = number;
        s.ticks = ticks;
        s.bytes = new byte[9 + n * s.width()];
        s.seal();
        rolls.get(roll).add(s);
        return tell(rolls.get(roll).size() - 1);
    }

    public int punch(int roll, int strip, int k, int v) {
        if (noStrip(roll, strip)) return tell(BAD);
        if (played != null) return tell(BUSY);
        Strip s = get(roll, strip);
        if (s.bytes == null) return tell(-11);
        if (k < 0 || k >= s.elements()) return tell(-12);
        boolean whole = s.reading() == 0;
        for (int i = 0; i < s.width(); i++) s.bytes[9 + k * s.width() + i] = (byte) (v >> 8 * (s.width() - 1 - i));
        if (whole) s.seal();
        return tell(1);
    }

    public int seal(int roll, int strip) {
        if (noStrip(roll, strip)) return tell(BAD);
        if (played != null) return tell(BUSY);
        Strip s = get(roll, strip);
        if (s.bytes == null) return tell(-11);
        s.seal();
        return tell(s.elements());
    }

    public int lose(int roll, int strip) {
        if (noStrip(roll, strip)) return tell(BAD);
        if (played != null) return tell(BUSY);
        Strip s = get(roll, strip);
        int answer = s.bytes == null ? 0 : 1;
        s.bytes = null;
        return tell(answer);
    }

    public int tear(int roll, int strip, int n) {
        if (noStrip(roll, strip) || n < 0) return tell(BAD);
        if (played != null) return tell(BUSY);
        Strip s = get(roll, strip);
        if (s.bytes == null) return tell(-11);
        int stay = Math.min(n, s.bytes.length);
        while (stay > 9 && (stay - 9) % s.width() != 0) stay--;
        s.bytes = java.util.Arrays.copyOf(s.bytes, stay);
        return tell(s.elements());
    }

    public int damage(int roll, int strip, int i, int mask) {
        if (noStrip(roll, strip)) return tell(BAD);
        if (played != null) return tell(BUSY);
        Strip s = get(roll, strip);
        if (s.bytes == null) return tell(-11);
        if (i < 0 || i >= s.bytes.length) return tell(-12);
        s.bytes[i] ^= (byte) (mask & 255);
        return tell(s.bytes[i] & 255);
    }

    public int byteOf(int roll, int strip, int i) {
        if (noStrip(roll, strip)) return tell(BAD);
        Strip s = get(roll, strip);
        if (s.bytes == null) return tell(-11);
        if (i < 0 || i >= s.bytes.length) return tell(-12);
        return tell(s.bytes[i] & 255);
    }

    public long head(int roll, int strip, int what) {
        if (noStrip(roll, strip) || what < 0 || what > 3) return tellLong(BAD);
        Strip s = get(roll, strip);
        if (s.bytes == null) return tellLong(-11);
        if (s.bytes.length < new int[] {1, 3, 5, 9}[what]) return tellLong(-12);
        tell(0);
        if (what == 0) return s.bytes[0];
        if (what == 1) return (short) ((s.bytes[1] & 255) << 8 | s.bytes[2] & 255);
        return what == 2 ? s.lengthTold() : s.sumTold();
    }

    public long sum(int roll, int strip) {
        if (noStrip(roll, strip)) return tellLong(BAD);
        Strip s = get(roll, strip);
        if (s.bytes == null) return tellLong(-11);
        if (s.bytes.length < 5) return tellLong(-12);
        tell(0);
        return s.sum();
    }

    public int read(int roll, int strip) {
        if (noStrip(roll, strip)) return tell(BAD);
        int f = get(roll, strip).reading();
        return tell(f == 0 ? get(roll, strip).elements() : -10 - f);
    }

    public int whole(int roll) {
        if (noRoll(roll)) return tell(BAD);
        return tell((int) rolls.get(roll).stream().filter(s -> s.reading() == 0).count());
    }

    public int finding(int roll, int k) {
        if (noRoll(roll) || k < 0) return tell(BAD);
        List<Integer> bad = new ArrayList<>();
        for (int i = 0; i < rolls.get(roll).size(); i++) if (get(roll, i).reading() != 0) bad.add(i);
        return tell(k < bad.size() ? bad.get(k) : NONE);
    }

    public int told(int roll, int strip, int what) {
        if (noStrip(roll, strip) || what < 0 || what > 3) return tell(BAD);
        Strip s = get(roll, strip);
        return tell(new int[] {s.kind, s.number, s.ticks, s.elements()}[what]);
    }

    public int instrument(int kind) {
        if (kind < 0 || kind > 6) return tell(BAD);
        if (played != null) return tell(BUSY);
        if (instruments.size() == 60) return tell(FULL);
        Instrument i = new Instrument();
        i.kind = kind;
        instruments.add(i);
        return tell(instruments.size() - 1);
    }

    private boolean has(int top, int wanted) {
        if (top == wanted) return true;
        for (int m : instruments.get(top).members) if (has(m, wanted)) return true;
        return false;
    }

    private int size(int top) {
        int n = 1;
        for (int m : instruments.get(top).members) n += size(m);
        return n;
    }

    public int couple(int coupler, int member) {
        if (noInstrument(coupler) || noInstrument(member) || has(member, coupler)) return tell(BAD);
        if (played != null) return tell(BUSY);
        Instrument c = instruments.get(coupler);
        if (c.kind != 6) return tell(-15);
        if (c.members.size() == 8) return tell(FULL);
        c.members.add(member);
        for (int i = 0; i < instruments.size(); i++) {
            if (size(i) > 40) {
                c.members.remove(c.members.size() - 1);
                return tell(FULL);
            }
        }
        return tell(c.members.size());
    }

    public int chest(int kind, int n) {
        if (kind < 0 || kind > 7) return tell(BAD);
        if (played != null) return tell(BUSY);
        if (chests.size() == 16 || (long) placesInAll() + n > 200) return tell(FULL);
        if (n < 0) return tell(-13);
        Chest c = new Chest();
        c.kind = kind;
        c.places = new int[n];
        java.util.Arrays.fill(c.places, -1);
        chests.add(c);
        return tell(chests.size() - 1);
    }

    private static boolean takes(int chestKind, int kind) {
        String[] taken = {"012", "12", "2", "3", "45", "5", "6", "0123456"};
        return taken[chestKind].indexOf((char) ('0' + kind)) >= 0;
    }

    public int place(int chest, int i, int instrument) {
        if (chest < 0 || chest >= chests.size()) return tell(BAD);
        if (instrument != -1 && noInstrument(instrument)) return tell(BAD);
        if (played != null) return tell(BUSY);
        Chest c = chests.get(chest);
        if (i < 0 || i >= c.places.length) return tell(-12);
        if (instrument >= 0 && !takes(c.kind, instruments.get(instrument).kind)) return tell(-16);
        c.places[i] = instrument;
        return tell(1);
    }

    public int wire(int track, int chest, int i) {
        if (track < 0 || track > 7 || chest < -1 || chest >= chests.size()) return tell(BAD);
        if (played != null) return tell(BUSY);
        wires[track] = chest == -1 ? null : new int[] {chest, i};
        return tell(1);
    }

    public int spoil(int instrument, int n) {
        if (noInstrument(instrument) || n < 0 || n > 1000) return tell(BAD);
        if (played != null) return tell(BUSY);
        int had = now.spoil[instrument];
        now.spoil[instrument] = n;
        return tell(had);
    }

    public int tune(int instrument, int p, int q) {
        if (noInstrument(instrument) || p < 0 || p > 1000 || q < 0 || q > 1000) return tell(BAD);
        if (q == 0 && p > 0) return tell(BAD);
        if (played != null) return tell(BUSY);
        Instrument i = instruments.get(instrument);
        if (i.kind == 3 || i.kind == 6) return tell(-15);
        i.ratio = (double) p / q;
        return tell(Double.isNaN(i.ratio) ? 0 : 1);
    }

    public int base(int v) {
        if (v < 1 || v > 32000) return tell(BAD);
        if (played != null) return tell(BUSY);
        base = v / 16.0;
        return tell(1);
    }

    private double frequencyAs(Instrument i, int kind) {
        switch (kind) {
            case 0:
                traces[8]++;
                return base * i.ratio;
            case 1:
                traces[9]++;
                return frequencyAs(i, 0) / 2.0;
            case 2:
                traces[10]++;
                return Math.floor(frequencyAs(i, 1) * 4.0) / 4.0;
            case 4:
                traces[11]++;
                return Math.rint(base * i.ratio * 8.0) / 8.0;
            case 5:
                traces[12]++;
                return Math.floor(frequencyAs(i, 4)) + 0.25;
            default:
                traces[13]++;
                double most = Double.NaN;
                for (int m : i.members) {
                    Instrument of = instruments.get(m);
                    if (of.kind == 3) continue;
                    double f = frequencyAs(of, of.kind);
                    if (!(f <= most) && !Double.isNaN(f)) most = f;
                }
                return most;
        }
    }

    private double frequencyOf(int instrument) {
        return frequencyAs(instruments.get(instrument), instruments.get(instrument).kind);
    }

    public long frequency(int instrument) {
        if (noInstrument(instrument)) return tellLong(BAD);
        if (instruments.get(instrument).kind == 3) return tellLong(-15);
        tell(0);
        return Double.doubleToLongBits(frequencyOf(instrument));
    }

    public int mute(int instrument) {
        if (noInstrument(instrument)) return tell(BAD);
        if (instruments.get(instrument).kind == 3) return tell(-15);
        return tell(Double.isNaN(frequencyOf(instrument)) ? 1 : 0);
    }

    public int higher(int one, int other) {
        if (noInstrument(one) || noInstrument(other)) return tell(BAD);
        if (instruments.get(one).kind == 3 || instruments.get(other).kind == 3) return tell(-15);
        double a = frequencyOf(one), b = frequencyOf(other);
        return tell(a > b ? 1 : a == b ? 2 : a < b ? 3 : 0);
    }

    public int play(int roll) {
        if (noRoll(roll)) return tell(BAD);
        if (played != null) return tell(BUSY);
        int[] spoil = now.spoil;
        now = new State();
        now.spoil = spoil;
        java.util.Arrays.fill(now.levels, 1000);
        java.util.Arrays.fill(now.stops, true);
        now.tempo = 24;
        played = rolls.get(roll);
        kept = new ArrayList<>();
        kept.add(now.copy());
        return tell(played.size());
    }

    private void happen(int sort, int what, int rest) {
        now.events.add(new Event(sort, now.gone, what, rest));
    }

    private void end(int k) {
        traces[16]++;
        Sound s = now.sounds.remove(k);
        now.ended[s.instrument()]++;
        happen(2, s.instrument(), s.track());
    }

    private int endAll() {
        int n = now.sounds.size();
        while (!now.sounds.isEmpty()) end(now.sounds.size() - 1);
        now.holes = new boolean[8];
        return n;
    }

    private boolean opens(int i, int track) {
        Instrument it = instruments.get(i);
        traces[14]++;
        if (it.kind == 6) traces[15]++;
        if (now.spoil[i] > 0) {
            now.spoil[i]--;
            if (now.spoil[i] == 0) return false;
        }
        int before = now.sounds.size();
        now.sounds.add(new Sound(i, track, now.gone));
        now.opened[i]++;
        happen(1, i, track);
        for (int m : it.members) {
            if (!opens(m, track)) {
                while (now.sounds.size() > before) end(now.sounds.size() - 1);
                return false;
            }
        }
        return true;
    }

    private void hole(int track) {
        now.holes[track] = true;
        if (wires[track] == null) return;
        int c = wires[track][0], i = wires[track][1];
        if (!now.stops[c]) return;
        int[] places = chests.get(c).places;
        if (i < 0 || i >= places.length) happen(3, track, 2);
        else if (places[i] < 0) happen(3, track, 1);
        else if (!opens(places[i], track)) happen(3, track, 10);
    }

    private void element(Strip s, int k) {
        int e = s.element(k);
        if (s.kind == 0) {
            for (int t = 0; t < 8; t++) {
                boolean bit = (e & 1 << t) != 0;
                if (bit && !now.holes[t]) hole(t);
                else if (!bit && now.holes[t]) {
                    now.holes[t] = false;
                    for (int i = now.sounds.size() - 1; i >= 0; i--) if (now.sounds.get(i).track() == t) end(i);
                }
            }
        } else if (s.kind == 1) {
            if (e < 0) java.util.Arrays.fill(now.levels, e & 4095);
            else now.levels[e >> 12 & 7] = e & 4095;
        } else if (s.kind == 2) {
            int drawn = "ABCDEFGHIJKLMNOP".indexOf((char) e), not = "abcdefghijklmnop".indexOf((char) e);
            if (drawn >= 0) now.stops[drawn] = true;
            if (not >= 0) now.stops[not] = false;
        } else {
            int t = e & 65535, r = e >>> 16;
            if (t == 0) return;
            now.span = r;
            now.step = 0;
            now.from = now.tempo;
            now.target = t;
            if (r == 0) now.tempo = t;
        }
    }

    private boolean oneTick() {
        while (now.place == NONE || now.over >= played.get(now.place).ticks) {
            int next = now.place == NONE ? 0 : now.place + 1;
            if (next >= played.size()) {
                endAll();
                played = null;
                return false;
            }
            Strip s = played.get(next);
            int f = s.reading();
            now.place = next;
            now.over = 0;
            now.whole = f == 0;
            happen(0, next, f);
            if (f != 0) endAll();
            else if (s.ticks == 0) for (int k = 0; k < s.elements(); k++) element(s, k);
        }
        Strip s = played.get(now.place);
        if (now.whole && now.over < s.elements()) element(s, now.over);
        now.over++;
        if (now.step < now.span) {
            now.step++;
            java.math.BigInteger way = java.math.BigInteger.valueOf(now.target - now.from);
            java.math.BigInteger top = way.multiply(java.math.BigInteger.valueOf(2L * now.step))
                    .add(java.math.BigInteger.valueOf(now.span));
            java.math.BigInteger below = java.math.BigInteger.valueOf(2L * now.span);
            java.math.BigInteger[] parts = top.divideAndRemainder(below);
            int floor = parts[0].intValueExact() - (parts[1].signum() < 0 ? 1 : 0);
            now.tempo = now.from + floor;
        }
        now.phase++;
        if (now.phase >= now.tempo) {
            now.phase = 0;
            now.beat++;
        }
        now.gone++;
        used++;
        kept.add(now.copy());
        if (kept.size() > 501) kept.remove(0);
        return true;
    }

    public int tick(int n) {
        if (n < 0 || n > 500) return tell(BAD);
        if (played == null) return tell(NONE);
        int went = 0;
        while (went < n && used < 20000 && oneTick()) went++;
        return tell(went);
    }

    public int halt() {
        if (played == null) return tell(NONE);
        played = null;
        return tell(endAll());
    }

    public int back(int n) {
        if (n < 0 || n > 500) return tell(BAD);
        if (played == null || kept.size() - 1 < n) return tell(NONE);
        for (int i = 0; i < n; i++) kept.remove(kept.size() - 1);
        now = kept.get(kept.size() - 1).copy();
        return tell(now.gone);
    }

    public int open(int track) {
        if (track < 0 || track > 7) return tell(BAD);
        if (!now.holes[track]) return tell(NONE);
        return tell((int) now.sounds.stream().filter(s -> s.track() == track).count());
    }

    public int sounding(int k, int what) {
        if (k < 0 || what < 0 || what > 2) return tell(BAD);
        if (k >= now.sounds.size()) return tell(NONE);
        Sound s = now.sounds.get(k);
        return tell(what == 0 ? s.instrument() : what == 1 ? s.track() : now.gone - s.since());
    }

    private int air(int kind) {
        if (kind == 2) {
            traces[7]++;
            return 2 * air(0);
        }
        traces[6]++;
        int n = 3;
        for (boolean drawn : now.stops) if (drawn) n++;
        return n;
    }

    private int loudAs(int kind, int own, int v, int a) {
        switch (kind) {
            case 0:
                traces[0]++;
                return v + air(own);
            case 1:
            case 2:
                traces[1]++;
                return loudAs(0, own, v, a) + 7;
            case 3:
                traces[2]++;
                return a == 0 ? 2 * v : 0;
            case 4:
                traces[3]++;
                return v - 5 * a < 0 ? 0 : v - 5 * a;
            case 5:
                traces[4]++;
                return loudAs(4, own, v, a / 4) + 1;
            default:
                traces[5]++;
                return 0;
        }
    }

    public int loud(int k) {
        if (k < 0) return tell(BAD);
        if (k >= now.sounds.size()) return tell(NONE);
        Sound s = now.sounds.get(k);
        int kind = instruments.get(s.instrument()).kind;
        if (kind != 3 && Double.isNaN(frequencyOf(s.instrument()))) return tell(0);
        return tell(loudAs(kind, kind, now.levels[s.track()], now.gone - s.since()));
    }

    public int level(int track) {
        return tell(track < 0 || track > 7 ? BAD : now.levels[track]);
    }

    public int stop(int chest) {
        return tell(chest < 0 || chest > 15 ? BAD : now.stops[chest] ? 1 : 0);
    }

    public int at(int what) {
        if (what < 0 || what > 8) return tell(BAD);
        return tell(new int[] {now.tempo, now.beat, now.phase, now.gone, now.place, now.over, now.whole ? 1 : 0,
            played == null ? 0 : 1, used}[what]);
    }

    public int times(int instrument, int what) {
        if (noInstrument(instrument) || what < 0 || what > 1) return tell(BAD);
        return tell(what == 0 ? now.opened[instrument] : now.ended[instrument]);
    }

    public int event(int k, int what) {
        if (k < 0 || what < 0 || what > 3) return tell(BAD);
        if (k >= 1500 || k >= now.events.size()) return tell(NONE);
        Event e = now.events.get(k);
        return tell(new int[] {e.sort(), e.gone(), e.what(), e.rest()}[what]);
    }

    public int cut(int roll, int k) {
        if (noRoll(roll) || k < 0 || k > rolls.get(roll).size()) return tell(BAD);
        if (played != null) return tell(BUSY);
        if (rolls.size() == 20) return tell(FULL);
        List<Strip> rest = rolls.get(roll).subList(k, rolls.get(roll).size());
        rolls.add(new ArrayList<>(rest));
        rest.clear();
        return tell(rolls.size() - 1);
    }

    private int insert(int roll, int at, List<Strip> those) {
        int more = those.stream().mapToInt(Strip::elements).sum();
        if (stripsInAll() + those.size() > 400 || elementsInAll() + more > 8000) return tell(FULL);
        List<Strip> copies = new ArrayList<>();
        for (Strip s : those) copies.add(s.copy());
        rolls.get(roll).addAll(at, copies);
        return tell(rolls.get(roll).size());
    }

    public int join(int roll, int other) {
        if (noRoll(roll) || noRoll(other) || roll == other) return tell(BAD);
        if (played != null) return tell(BUSY);
        return insert(roll, rolls.get(roll).size(), rolls.get(other));
    }

    public int repeat(int roll, int i, int n) {
        if (noRoll(roll) || n < 0 || n > 8 || i < 0 || (long) i + n > rolls.get(roll).size()) return tell(BAD);
        if (played != null) return tell(BUSY);
        return insert(roll, i + n, new ArrayList<>(rolls.get(roll).subList(i, i + n)));
    }

    public int move(int roll, int i, int n, int to, int j) {
        if (noRoll(roll) || noRoll(to) || n < 0 || n > 8) return tell(BAD);
        if (played != null) return tell(BUSY);
        tell(0);
        for (int k = 0; k < n; k++) {
            long a = (long) i + k, b = (long) j + k;
            if (a < 0 || b < 0 || a >= rolls.get(roll).size() || b >= rolls.get(to).size()) {
                status = 2;
                return k;
            }
            Strip from = get(roll, (int) a), into = get(to, (int) b);
            if (from.bytes == null || into.bytes == null) status = 1;
            else if (from.kind != into.kind) status = 5;
            else if (elementsInAll() - into.elements() + from.elements() > 8000) status = FULL;
            if (status != 0) return k;
            into.bytes = from.bytes.clone();
        }
        return n;
    }

    public int copy(int roll, int strip, int from, int n, int to, int other, int at) {
        if (noStrip(roll, strip) || noStrip(to, other)) return tell(BAD);
        if (played != null) return tell(BUSY);
        Strip a = get(roll, strip), b = get(to, other);
        if (a.bytes == null || b.bytes == null) return tell(-11);
        if (a.kind != b.kind) return tell(-15);
        if (n < 0 || from < 0 || at < 0) return tell(-14);
        if ((long) from + n > a.elements() || (long) at + n > b.elements()) return tell(-14);
        byte[] were = a.bytes.clone();
        for (int i = 0; i < n * a.width(); i++) b.bytes[9 + at * a.width() + i] = were[9 + from * a.width() + i];
        return tell(n);
    }

    public int transpose(int roll, int strip, int n) {
        if (noStrip(roll, strip) || n < -7 || n > 7) return tell(BAD);
        if (played != null) return tell(BUSY);
        Strip s = get(roll, strip);
        if (s.kind != 0) return tell(-15);
        if (s.reading() != 0) return tell(-10 - s.reading());
        fallen.clear();
        for (int k = 0; k < s.elements(); k++) {
            int after = 0;
            for (int t = 0; t < 8; t++) {
                if ((s.bytes[9 + k] & 1 << t) == 0) continue;
                if (t + n < 0 || t + n > 7) fallen.add(new int[] {k, t});
                else after |= 1 << t + n;
            }
            s.bytes[9 + k] = (byte) after;
        }
        s.seal();
        return tell(fallen.size());
    }

    public int fallen(int k, int what) {
        if (k < 0 || what < 0 || what > 1) return tell(BAD);
        return tell(k >= fallen.size() ? NONE : fallen.get(k)[what]);
    }

    public int mend(int roll, int strip, int other) {
        if (noStrip(roll, strip) || noRoll(other)) return tell(BAD);
        if (played != null) return tell(BUSY);
        Strip s = get(roll, strip);
        if (s.reading() == 0) return tell(strip);
        for (int i = 0; i < rolls.get(other).size(); i++) {
            Strip o = get(other, i);
            if (o.kind == s.kind && o.number == s.number && o.reading() == 0) {
                if (elementsInAll() - s.elements() + o.elements() > 8000) return tell(FULL);
                s.bytes = o.bytes.clone();
                return tell(i);
            }
        }
        return tell(NONE);
    }

    public int equal(int roll, int other) {
        if (noRoll(roll) || noRoll(other)) return tell(BAD);
        if (rolls.get(roll).size() != rolls.get(other).size()) return tell(0);
        for (int i = 0; i < rolls.get(roll).size(); i++) {
            Strip a = get(roll, i), b = get(other, i);
            if (a.kind != b.kind || a.number != b.number || a.ticks != b.ticks) return tell(0);
            if (!java.util.Arrays.equals(a.bytes, b.bytes)) return tell(0);
        }
        return tell(1);
    }

    public long digest(int roll) {
        if (noRoll(roll)) return tellLong(BAD);
        tell(0);
        int s = 7;
        for (Strip t : rolls.get(roll)) {
            s = 31 * (31 * (31 * s + t.kind) + t.number) + t.ticks;
            if (t.bytes != null) for (byte b : t.bytes) s = 31 * s + b;
        }
        return s;
    }

    public int count(int what) {
        if (what < 0 || what > 7) return tell(BAD);
        return tell(new int[] {rolls.size(), instruments.size(), chests.size(), now.events.size(), now.sounds.size(),
            fallen.size(), elementsInAll(), placesInAll()}[what]);
    }

    public int strips(int roll) {
        return tell(noRoll(roll) ? BAD : rolls.get(roll).size());
    }

    public int members(int coupler) {
        if (noInstrument(coupler)) return tell(BAD);
        return tell(instruments.get(coupler).kind != 6 ? -15 : instruments.get(coupler).members.size());
    }

    public int trace(int b) {
        return tell(b < 0 || b > 16 ? BAD : traces[b]);
    }

    public int status() {
        return status;
    }
}
