/**
 * A RollPlayer whose calls are counted: the document promises nothing beyond the 512th, so a test that
 * asks more of one object is itself at fault.
 */
final class Player {
    static final int MOST_CALLS = 512;

    private final RollPlayer x = new RollPlayer();
    private int calls = 0;

    /** How many calls may still be asked. */
    int left() {
        return MOST_CALLS - calls;
    }

    private RollPlayer next() {
        calls++;
        if (calls > MOST_CALLS) throw new IllegalStateException("a test asks more than 512 calls of one object");
        return x;
    }

    int roll() {
        return next().roll();
    }

    int strip(int roll, int kind, int number, int n, int ticks) {
        return next().strip(roll, kind, number, n, ticks);
    }

    int punch(int roll, int strip, int k, int v) {
        return next().punch(roll, strip, k, v);
    }

    int seal(int roll, int strip) {
        return next().seal(roll, strip);
    }

    int lose(int roll, int strip) {
        return next().lose(roll, strip);
    }

    int tear(int roll, int strip, int n) {
        return next().tear(roll, strip, n);
    }

    int damage(int roll, int strip, int i, int mask) {
        return next().damage(roll, strip, i, mask);
    }

    int byteOf(int roll, int strip, int i) {
        return next().byteOf(roll, strip, i);
    }

    long head(int roll, int strip, int what) {
        return next().head(roll, strip, what);
    }

    long sum(int roll, int strip) {
        return next().sum(roll, strip);
    }

    int read(int roll, int strip) {
        return next().read(roll, strip);
    }

    int whole(int roll) {
        return next().whole(roll);
    }

    int finding(int roll, int k) {
        return next().finding(roll, k);
    }

    int told(int roll, int strip, int what) {
        return next().told(roll, strip, what);
    }

    int instrument(int kind) {
        return next().instrument(kind);
    }

    int couple(int coupler, int member) {
        return next().couple(coupler, member);
    }

    int chest(int kind, int n) {
        return next().chest(kind, n);
    }

    int place(int chest, int i, int instrument) {
        return next().place(chest, i, instrument);
    }

    int wire(int track, int chest, int i) {
        return next().wire(track, chest, i);
    }

    int spoil(int instrument, int n) {
        return next().spoil(instrument, n);
    }

    int tune(int instrument, int p, int q) {
        return next().tune(instrument, p, q);
    }

    int base(int v) {
        return next().base(v);
    }

    long frequency(int instrument) {
        return next().frequency(instrument);
    }

    int mute(int instrument) {
        return next().mute(instrument);
    }

    int higher(int one, int other) {
        return next().higher(one, other);
    }

    int play(int roll) {
        return next().play(roll);
    }

    int tick(int n) {
        return next().tick(n);
    }

    int halt() {
        return next().halt();
    }

    int back(int n) {
        return next().back(n);
    }

    int open(int track) {
        return next().open(track);
    }

    int sounding(int k, int what) {
        return next().sounding(k, what);
    }

    int loud(int k) {
        return next().loud(k);
    }

    int level(int track) {
        return next().level(track);
    }

    int stop(int chest) {
        return next().stop(chest);
    }

    int at(int what) {
        return next().at(what);
    }

    int times(int instrument, int what) {
        return next().times(instrument, what);
    }

    int event(int k, int what) {
        return next().event(k, what);
    }

    int cut(int roll, int k) {
        return next().cut(roll, k);
    }

    int join(int roll, int other) {
        return next().join(roll, other);
    }

    int repeat(int roll, int i, int n) {
        return next().repeat(roll, i, n);
    }

    int move(int roll, int i, int n, int to, int j) {
        return next().move(roll, i, n, to, j);
    }

    int copy(int roll, int strip, int from, int n, int to, int other, int at) {
        return next().copy(roll, strip, from, n, to, other, at);
    }

    int transpose(int roll, int strip, int n) {
        return next().transpose(roll, strip, n);
    }

    int fallen(int k, int what) {
        return next().fallen(k, what);
    }

    int mend(int roll, int strip, int other) {
        return next().mend(roll, strip, other);
    }

    int equal(int roll, int other) {
        return next().equal(roll, other);
    }

    long digest(int roll) {
        return next().digest(roll);
    }

    int count(int what) {
        return next().count(what);
    }

    int strips(int roll) {
        return next().strips(roll);
    }

    int members(int coupler) {
        return next().members(coupler);
    }

    int trace(int b) {
        return next().trace(b);
    }

    int status() {
        return next().status();
    }
}
