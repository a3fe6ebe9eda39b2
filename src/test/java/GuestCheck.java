/** What the tests of the guest share: programs that are run on host 0, and looks at its guest. */
abstract class GuestCheck {
    static final Check CHECK = new Check();
    static final int HANDLER = 0x200;
    static final int MIN = Integer.MIN_VALUE;
    static final int MAX = Integer.MAX_VALUE;

    static long unsigned(int v) {
        return v & 0xFFFFFFFFL;
    }

    static void register(String what, ReplayHosts x, int k, int want) {
        CHECK.due(what + ", register " + k, x.host(0, 32 + k), unsigned(want));
    }

    /** One step for each word of the program. */
    static ReplayHosts ran(Asm asm) {
        return ran(asm, 4);
    }

    static ReplayHosts ran(Asm asm, int pages) {
        ReplayHosts x = asm.booted(2, pages, 4);
        int steps = asm.words().length;
        CHECK.due("steps", x.run(0, steps), steps);
        return x;
    }

    /** One instruction behind registers 1 = p and 2 = q; what register 3 has then. */
    static void gives(String what, int p, int q, int w, int want) {
        ReplayHosts x = ran(new Asm().li(1, p).li(2, q).word(w));
        register(what + " of " + p + ", " + q, x, 3, want);
        CHECK.due(what + " place", x.host(0, 2), 20);
    }

    /** Where the instruction of traps() stands. */
    static final int TRAPS_AT = 40;

    /** One instruction behind registers 1 = p and 2 = q that TRAPS. */
    static void traps(String what, int p, int q, int w, int cause, int value) {
        traps(what, 4, p, q, w, cause, value);
    }

    static void traps(String what, int pages, int p, int q, int w, int cause, int value) {
        Asm asm = new Asm().li(1, p).li(2, q).li(3, 77).li(4, HANDLER).csr(1, 0, Asm.VECTOR, 4).csr(5, 0, Asm.STATUS, 8);
        ReplayHosts x = ran(asm.word(w), pages);
        CHECK.due(what + " cause", x.host(0, 69), unsigned(cause));
        CHECK.due(what + " value", x.host(0, 70), unsigned(value));
        CHECK.due(what + " back", x.host(0, 68), TRAPS_AT);
        CHECK.due(what + " place", x.host(0, 2), HANDLER);
        CHECK.due(what + " status", x.host(0, 64), 128);
        CHECK.due(what + " count", x.host(0, 1), TRAPS_AT / 4 + 1);
        register(what + " leaves", x, 1, p);
        register(what + " leaves", x, 2, q);
        register(what + " leaves", x, 3, 77);
        CHECK.due(what + " puts nothing out", x.host(0, 4), 0);
    }

    static int one(Asm asm) {
        return asm.words()[0];
    }

    static int imm(int f, int i) {
        return one(new Asm().number(19, f, 3, 1, i));
    }

    static int reg(int g, int f) {
        return one(new Asm().register(g, f, 3, 1, 2));
    }

    static int loadWord(int f, int i) {
        return one(new Asm().load(f, 3, 1, i));
    }

    static int storeWord(int f, int s) {
        return one(new Asm().store(f, 2, 1, s));
    }
}
