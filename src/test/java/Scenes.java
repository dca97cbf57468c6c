/** How objects come to the states in which calls are refused. */
final class Scenes {
    private Scenes() {
    }

    /** Nothing at all. */
    static void nothing(Run r) {
    }

    /**
     * ROLL 0 has four WHOLE STRIPS (TEMPO, HOLES, LEVELS, STOPS), ROLL 1 has HOLES: one WHOLE, one with a SUM, one
     * TORN, one LOST, and LOST LEVELS; ROLL 2 has none. INSTRUMENTS 0 .. 6 are of those KINDS, 7 is a COUPLER, 6 has
     * 0 and 3, 7 has 6. CHEST 0 takes any (8 PLACES, the last is empty), CHEST 1 PIPES. A ROLL was PLAYED before.
     */
    static void rest(Run r) {
        r.does("roll()", "roll()", "roll()");
        r.strip(3, 2, 40 << 16 | 4);
        r.strip(0, 4, 0x4f, 0xff, 0x33, 0xc0);
        r.strip(1, 2, 0x8064, 0x3007);
        r.strip(2, 1, 'b');
        r.does("strip(1, 0, 5, 3, 2)", "strip(1, 0, 6, 3, 2)", "strip(1, 0, 7, 3, 2)", "strip(1, 0, 8, 3, 2)");
        r.does("strip(1, 1, 9, 3, 2)", "punch(1, 0, 1, 195)", "transpose(1, 0, 3)", "damage(1, 1, 9, 1)");
        r.does("tear(1, 2, 4)", "lose(1, 3)", "lose(1, 4)", "chest(7, 8)", "chest(0, 2)");
        for (int kind = 0; kind < 7; kind++) r.does("instrument(" + kind + ")", "place(0, " + kind + ", " + kind + ")");
        r.does("instrument(6)", "couple(6, 0)", "couple(6, 3)", "couple(7, 6)", "place(1, 1, 2)");
        for (int t = 0; t < 7; t++) r.does("wire(" + t + ", 0, " + t + ")");
        r.does("wire(7, 1, 1)", "spoil(4, 3)", "spoil(6, 9)", "tune(1, 0, 0)", "tune(5, 2, 3)", "base(7000)");
        r.does("play(0)", "tick(5)", "halt()");
    }

    /** The same, while ROLL 0 is PLAYED: TEMPO goes on, HOLES are open, and five TICKS can be gone back. */
    static void busy(Run r) {
        rest(r);
        r.does("play(0)", "tick(5)");
    }

    /** The same, when it is over. */
    static void over(Run r) {
        rest(r);
        r.does("play(0)", "tick(500)");
    }

    static void twentyRolls(Run r) {
        rest(r);
        for (int i = 3; i < 20; i++) r.does("roll()");
    }

    /** 400 STRIPS with some ELEMENTS: ROLL 0 has 396, ROLL 1 four, ROLL 2 none. */
    static void allStrips(Run r) {
        r.does("roll()");
        for (int s = 0; s < 8; s++) r.does("strip(0, " + s % 4 + ", " + s + ", " + s % 3 + ", 1)");
        for (int i = 1; i < 50; i++) r.does("repeat(0, 0, 8)");
        r.does("cut(0, 396)", "roll()");
    }

    /** 8000 ELEMENTS in 32 STRIPS: ROLL 0 has 31 of 256, by turns of each KIND, and one of 64. */
    static void allElements(Run r) {
        r.does("roll()", "roll()");
        for (int s = 0; s < 31; s++) r.does("strip(0, " + s % 4 + ", " + s + ", 256, 1)");
        r.does("strip(0, 0, 31, 64, 1)");
    }

    static void allInstruments(Run r) {
        for (int i = 0; i < 60; i++) r.does("instrument(" + i % 7 + ")");
    }

    /** 16 CHESTS of 12 PLACES: 8 PLACES could still be. */
    static void allChests(Run r) {
        r.does("instrument(0)");
        for (int c = 0; c < 16; c++) r.does("chest(" + c % 8 + ", 12)");
    }

    /** 200 PLACES in two CHESTS. */
    static void allPlaces(Run r) {
        r.does("instrument(0)", "chest(7, 150)", "chest(7, 50)");
    }

    /** COUPLER 0 has 8 MEMBERS; 1 is a PIPE. */
    static void allMembers(Run r) {
        r.does("instrument(6)", "instrument(0)");
        for (int i = 0; i < 8; i++) r.does("couple(0, 1)");
    }

    /**
     * COUPLER 0 has three times COUPLER 1, that two times COUPLER 2, that five times PIPE 3: the SIZES are 40, 13
     * and 6, and each could have more MEMBERS. COUPLER 4 has none.
     */
    static void allSizes(Run r) {
        r.does("instrument(6)", "instrument(6)", "instrument(6)", "instrument(0)", "instrument(6)");
        for (int i = 0; i < 3; i++) r.does("couple(0, 1)");
        for (int i = 0; i < 2; i++) r.does("couple(1, 2)");
        for (int i = 0; i < 5; i++) r.does("couple(2, 3)");
    }
}
