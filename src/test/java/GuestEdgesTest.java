/** The boundary cases that the document's sentences on the guest name: numbers, steps, traps, instructions, control registers. */
public final class GuestEdgesTest extends GuestCheck {
    private static final int[] EDGES = {MIN, MIN + 1, -2, -1, 0, 1, 2, MAX - 1, MAX};
    private static final int[] CONTROL = {768, 772, 773, 832, 833, 834, 835};
    private static final int[] CONTROL_BITS = {0x88, 0x880, -4, -1, -4, -1, -1};

    public static void main(String[] args) {
        allIsZeroAtFirst();
        arithmeticGoesRound();
        comparisons();
        shifts();
        registerZero();
        nothing();
        upperBits();
        addressesGoRound();
        offsetsOfLoadsAndStores();
        endsOfMemory();
        noMultiples();
        signs();
        storesChangeTheirBytesAlone();
        jumpBits();
        jumpsToRegisters();
        branchBits();
        placesThatAreNoMultipleOfFour();
        fetchEnds();
        controlBits();
        controlWithNumbers();
        controlThatIsOnlyRead();
        controlsThatThereAreNot();
        wordsThatAreNoInstructions();
        statusInTraps();
        statusInReturns();
        sleeping();
        awakeThoughNoStepIsMade();
        interrupts();
        interruptsAheadOfTraps();
        counting();
        CHECK.end();
    }

    /** "REGISTERS .., the PLACE (at first 0), a COUNT (0; 64 bits) .. CONTROL REGISTERS, all 0 at first". */
    private static void allIsZeroAtFirst() {
        ReplayHosts x = new Asm().booted(2, 4, 4);
        for (int what = 1; what < 72; what++) {
            CHECK.due("booted, what " + what, x.host(0, what), what >= 15 && what <= 31 ? -2 : 0);
        }
    }

    /** "Numbers have 32 bits; all arithmetic goes round". */
    private static void arithmeticGoesRound() {
        for (int p : EDGES) {
            for (int i : new int[] {-2048, -1, 0, 1, 2047}) {
                gives("a + I", p, 0, imm(0, i), p + i);
                gives("exclusive or", p, 0, imm(4, i), p ^ i);
                gives("or", p, 0, imm(6, i), p | i);
                gives("and", p, 0, imm(7, i), p & i);
                gives("a < I", p, 0, imm(2, i), p < i ? 1 : 0);
                gives("a < I UNSIGNED", p, 0, imm(3, i), unsigned(p) < unsigned(i) ? 1 : 0);
            }
            for (int q : EDGES) {
                gives("a + b", p, q, reg(0, 0), p + q);
                gives("a - b", p, q, reg(32, 0), p - q);
                gives("exclusive or", p, q, reg(0, 4), p ^ q);
                gives("or", p, q, reg(0, 6), p | q);
                gives("and", p, q, reg(0, 7), p & q);
            }
        }
    }

    /** "a < b SIGNED .. UNSIGNED": of branches and of 51, at the turns of both. */
    private static void comparisons() {
        for (int p : EDGES) {
            for (int q : EDGES) {
                boolean less = p < q;
                boolean lessUnsigned = unsigned(p) < unsigned(q);
                gives("a < b", p, q, reg(0, 2), less ? 1 : 0);
                gives("a < b UNSIGNED", p, q, reg(0, 3), lessUnsigned ? 1 : 0);
                boolean[] goes = {p == q, p != q, false, false, less, !less, lessUnsigned, !lessUnsigned};
                for (int f : new int[] {0, 1, 4, 5, 6, 7}) {
                    ReplayHosts x = ran(new Asm().li(1, p).li(2, q).branch(f, 1, 2, 0x100));
                    CHECK.due("branch " + f + " of " + p + ", " + q, x.host(0, 2), goes[f] ? 16 + 0x100 : 20);
                }
            }
        }
    }

    /** "a moved up by B (the number)", "by the lowest five bits of b". */
    private static void shifts() {
        int a = 0x80000001;
        for (int by : new int[] {0, 1, 30, 31}) {
            gives("up", a, 0, imm(1, by), a << by);
            gives("down", a, 0, imm(5, by), a >>> by);
            gives("down SIGNED", a, 0, imm(5, by | 0x400), a >> by);
        }
        for (int b : new int[] {0, 1, 31, 32, 33, 63, 64, -1, -32, MIN, MAX}) {
            int five = b & 31;
            gives("up by b", a, b, reg(0, 1), a << five);
            gives("down by b", a, b, reg(0, 5), a >>> five);
            gives("down SIGNED by b", a, b, reg(32, 5), a >> five);
        }
        gives("down SIGNED, of one that isn't negative", MAX, 31, reg(32, 5), 0);
    }

    /** "x0 is always 0": whatever would write it. */
    private static void registerZero() {
        Asm asm = new Asm().devices().lui(0, -1).auipc(0, 1).jal(0, 4).addi(2, 0, 24).jalr(0, 2, 0).load(2, 0, 0, 0);
        asm.addi(0, 1, 5).register(0, 0, 0, 1, 1).csr(5, 0, Asm.SCRATCH, 7).csr(2, 0, Asm.SCRATCH, 0).csr(2, 0, Asm.COUNT, 0);
        asm.lw(0, 1, Asm.KEY).register(0, 0, 3, 0, 0).sw(0, 0, 0x100).addi(4, 0, 3);
        ReplayHosts x = ran(asm);
        CHECK.due("x0", x.host(0, 32), 0);
        register("x0 + x0", x, 3, 0);
        register("x0 + 3", x, 4, 3);
        CHECK.due("SCRATCH", x.host(0, 67), 7);
        CHECK.due("no TRAP", x.host(0, 68), 0);
    }

    /** "15: nothing", but that the PLACE becomes 4 more: whatever else is in the word. */
    private static void nothing() {
        for (int rest : new int[] {0, 1, 0x20, 0x1000, 0x1FFFFFF}) {
            gives("15", MIN, MAX, 15 | rest << 7, 0);
        }
    }

    /** "55: d = the upper 20 bits of w. 23: d = PLACE + these." */
    private static void upperBits() {
        for (int upper : new int[] {0, 1, 0x7FFFF, 0x80000, 0xFFFFF}) {
            gives("55", 0, 0, one(new Asm().lui(3, upper)), upper << 12);
            gives("23", 0, 0, one(new Asm().auipc(3, upper)), 16 + (upper << 12));
        }
    }

    /** An address is a + I, or a + S, and goes round. */
    private static void addressesGoRound() {
        ReplayHosts x = ran(new Asm().addi(1, 0, -4).lw(3, 1, 4).addi(4, 0, 0x77).sw(4, 1, 0x104).lui(5, 0x80000).lui(6, 0x80000));
        register("a load from -4 + 4", x, 3, one(new Asm().addi(1, 0, -4)));
        CHECK.due("a store to -4 + 260", x.memory(0, 0x100), 0x77);
        traps("below MIN", MIN, 0, loadWord(2, -2048), 5, MAX - 2047);
        traps("above MAX", MAX - 3, 0, storeWord(2, 4), 7, MIN);
        traps("below 0", 0, 0, loadWord(2, -2048), 5, -2048);
        x = ran(new Asm().li(1, 65536 + 12 + 2048).addi(2, 0, 9).sw(2, 1, -2048));
        CHECK.outside("a DEVICE's word from above", x, 9);
        x = ran(new Asm().li(1, 65536 + 12 - 2044).addi(2, 0, 8).sw(2, 1, 2044));
        CHECK.outside("a DEVICE's word from below", x, 8);
    }

    /** "I bits 20 .. 31, S G and D, both SIGNED": the least, the greatest, and each bit. */
    private static void offsetsOfLoadsAndStores() {
        for (int i : new int[] {-2048, -2047, -1025, -1024, -512, -33, -32, -31, -2, -1, 0, 1, 2, 4, 8, 16, 31, 32, 64, 128, 256, 512, 1024, 2047}) {
            int p = 0x200 - i;
            ReplayHosts x = ran(new Asm().li(1, p).addi(2, 0, 0x5A).store(0, 2, 1, i).load(4, 3, 1, i));
            CHECK.due("stored at S = " + i, x.memory(0, 0x200), 0x5A);
            register("loaded at I = " + i, x, 3, 0x5A);
        }
    }

    /** "MEMORY: PAGES of 256 bytes .. from 0 on": the last byte, half and word, and those beyond. */
    private static void endsOfMemory() {
        for (int pages : new int[] {4, 5, 15, 16}) {
            int end = 256 * pages;
            Asm asm = new Asm().li(1, end).addi(2, 0, -2).sw(2, 1, -4).store(1, 0, 1, -2).store(0, 2, 1, -1);
            asm.lw(3, 1, -4).load(1, 4, 1, -2).load(5, 5, 1, -2).load(0, 6, 1, -1).load(4, 7, 1, -1).lw(8, 0, 0);
            ReplayHosts x = ran(asm, pages);
            register("the last word", x, 3, 0xFE00FFFE);
            register("the last half", x, 4, 0xFFFFFE00);
            register("the last half UNSIGNED", x, 5, 0xFE00);
            register("the last byte", x, 6, -2);
            register("the last byte UNSIGNED", x, 7, 0xFE);
            CHECK.due("the last byte", x.memory(0, end - 1), 0xFE);
            CHECK.due("none beyond", x.memory(0, end), -1);
            for (int far : new int[] {end, end + 4, 65532, -4, MIN, MAX - 3}) {
                for (int f : new int[] {0, 1, 2, 4, 5}) {
                    traps("a load beyond", pages, far, 0, loadWord(f, 0), 5, far);
                }
                for (int f = 0; f < 3; f++) {
                    traps("a store beyond", pages, far, 0, storeWord(f, 0), 7, far);
                }
            }
            traps("the highest byte", pages, -1, 0, loadWord(0, 0), 5, -1);
            traps("the highest byte", pages, -1, 0, storeWord(0, 0), 7, -1);
        }
    }

    /** "An address that is no multiple of 2 (halves), of 4 (words): cause 4, 6; else one that isn't all in MEMORY ..: 5, 7". */
    private static void noMultiples() {
        for (int from : new int[] {0x100, 1020, 1024, 65536, -4}) {
            for (int k = 0; k < 4; k++) {
                int to = from + k;
                boolean beyond = from != 0x100 && from != 1020;
                for (int f : new int[] {0, 1, 2, 4, 5}) {
                    int size = f == 2 ? 4 : f % 4 == 1 ? 2 : 1;
                    boolean device = from == 65536 && f == 2;
                    if (k % size != 0) {
                        traps("load " + f + " of no multiple", to, 0, loadWord(f, 0), 4, to);
                    } else if (beyond && !device) {
                        traps("load " + f + " of a multiple", to, 0, loadWord(f, 0), 5, to);
                    } else {
                        gives("load " + f, to, 0, loadWord(f, 0), 0);
                    }
                    if (f < 3 && k % size != 0) {
                        traps("store " + f + " of no multiple", to, 0, storeWord(f, 0), 6, to);
                    } else if (f < 3 && beyond && !device) {
                        traps("store " + f + " of a multiple", to, 0, storeWord(f, 0), 7, to);
                    }
                }
            }
        }
    }

    /** "F 0 a byte, 1 a half, both SIGNED, 2 a word, 4 a byte, 5 a half, UNSIGNED". */
    private static void signs() {
        for (int v : new int[] {0, 0x7F, 0x80, 0xFF, 0x7FFF, 0x8000, 0xFFFF, 0x7FFFFFFF, MIN, -1}) {
            Asm asm = new Asm().li(2, v).sw(2, 0, 0x100);
            asm.load(0, 3, 0, 0x100).load(1, 4, 0, 0x100).load(2, 5, 0, 0x100).load(4, 6, 0, 0x100).load(5, 7, 0, 0x100);
            ReplayHosts x = ran(asm);
            register("a byte of " + v, x, 3, (byte) v);
            register("a half of " + v, x, 4, (short) v);
            register("a word of " + v, x, 5, v);
            register("a byte UNSIGNED of " + v, x, 6, v & 0xFF);
            register("a half UNSIGNED of " + v, x, 7, v & 0xFFFF);
        }
    }

    /** "F 0, 1, 2: the lowest byte, half, all of b". */
    private static void storesChangeTheirBytesAlone() {
        int[] sizes = {1, 2, 4};
        for (int f = 0; f < 3; f++) {
            for (int at = 0x104; at < 0x108; at += sizes[f]) {
                Asm asm = new Asm().addi(2, 0, -1).sw(2, 0, 0x100).sw(2, 0, 0x104).sw(2, 0, 0x108).li(2, 0x04030201).store(f, 2, 0, at);
                ReplayHosts x = ran(asm);
                for (int a = 0x100; a < 0x10C; a++) {
                    boolean its = a >= at && a < at + sizes[f];
                    CHECK.due("store " + f + " at " + at + ", byte " + a, x.memory(0, a), its ? a - at + 1 : 255);
                }
            }
        }
    }

    /** "111: d = PLACE + 4, to PLACE + J (SIGNED; bits 31, 12 .. 19, 20, 21 .. 30 and a 0, from the highest on)". */
    private static void jumpBits() {
        for (int k = 2; k <= 20; k++) {
            int j = k == 20 ? -(1 << 20) : 1 << k;
            jump(j);
            jump(-j);
        }
        jump(0);
        jump(0xFFFFC);
        jump(-4);
    }

    private static void jump(int offset) {
        int j = offset == 1 << 20 ? -offset : offset;
        ReplayHosts x = ran(new Asm().addi(1, 0, 0).jal(2, j));
        CHECK.due("jump by " + j, x.host(0, 2), unsigned(4 + j));
        register("jump by " + j, x, 2, 8);
    }

    /** "103, F 0: d = PLACE + 4, to a + I without its lowest bit". */
    private static void jumpsToRegisters() {
        int[][] cases = {{0, 0, 0}, {0, 1, 0}, {1, 0, 0}, {1, -1, 0}, {-1, 1, 0}, {-1, 2, 0}, {4, 2044, 2048}, {4, 2045, 2048},
            {0, -2048, -2048}, {2048, -2048, 0}, {2049, -2048, 0}, {MAX, 1, MIN}, {MAX, 2, MIN}, {MIN, -4, MAX - 3}, {-4, 0, -4}, {-3, 0, -4}};
        for (int[] c : cases) {
            ReplayHosts x = ran(new Asm().li(1, c[0]).jalr(3, 1, c[1]));
            CHECK.due("jump to " + c[0] + " + " + c[1], x.host(0, 2), unsigned(c[2]));
            register("jump to a register", x, 3, 12);
        }
        for (int f = 1; f < 8; f++) {
            int w = one(new Asm().number(103, f, 3, 1, 0));
            traps("103, F " + f, 0, 0, w, 2, w);
        }
    }

    /** "99: to PLACE + T (SIGNED; bits 31, 7, 25 .. 30, 8 .. 11 and a 0)". */
    private static void branchBits() {
        for (int k = 2; k <= 12; k++) {
            int t = 1 << k;
            branch(-t);
            branch(k == 12 ? t - 4 : t);
        }
        branch(0);
    }

    private static void branch(int t) {
        ReplayHosts x = ran(new Asm().addi(1, 0, 0).branch(0, 0, 0, t));
        CHECK.due("branch by " + t, x.host(0, 2), unsigned(4 + t));
        x = ran(new Asm().addi(1, 0, 0).branch(1, 0, 0, t));
        CHECK.due("branch by " + t + ", not taken", x.host(0, 2), 8);
    }

    /** "A place to go to that is no multiple of 4: cause 0, value that place." */
    private static void placesThatAreNoMultipleOfFour() {
        for (int by : new int[] {2, -2, 6, 0xFFFFE, -0xFFFFE}) {
            traps("jump by " + by, 0, 0, one(new Asm().jal(3, by)), 0, TRAPS_AT + by);
        }
        for (int by : new int[] {2, -2, 6, 4094, -4094, -TRAPS_AT - 2}) {
            traps("branch by " + by, 0, 0, one(new Asm().branch(0, 1, 2, by)), 0, TRAPS_AT + by);
            ReplayHosts x = ran(new Asm().branch(1, 0, 0, by));
            CHECK.due("a branch that isn't taken", x.host(0, 2), 4);
            CHECK.due("a branch that isn't taken", x.host(0, 69), 0);
        }
        for (int to : new int[] {2, 3, 6, 7, -1, -2, MAX, MAX - 1}) {
            traps("jump to " + to, to, 0, one(new Asm().jalr(3, 1, 0)), 0, to & -2);
        }
        traps("jump to MAX + 3", MAX, 0, one(new Asm().jalr(3, 1, 3)), 0, MIN + 2);
        // A place beyond MEMORY is one to go to; the FETCH behind it TRAPS.
        ReplayHosts x = ran(new Asm().jal(3, 0x400).word(0));
        CHECK.due("d", x.host(0, 35), 4);
        CHECK.due("FETCH", x.host(0, 69), 1);
        CHECK.due("FETCH", x.host(0, 70), 0x400);
    }

    /** "FETCH: cause 1, value the PLACE, if it isn't all in MEMORY". */
    private static void fetchEnds() {
        for (int pages : new int[] {4, 5, 15, 16}) {
            int end = 256 * pages;
            ReplayHosts x = new ReplayHosts(2, pages, 1);
            new Asm().li(1, end - 4).jalr(0, 1, 0).into(x);
            x.put(end - 8, (long) one(new Asm().addi(2, 0, 7)) << 32);
            x.boot();
            CHECK.due("to the last word", x.run(0, 4), 4);
            register("the last word is carried out", x, 2, 7);
            CHECK.due("behind it", x.host(0, 2), end);
            CHECK.due("no TRAP yet", x.host(0, 69), 0);
            CHECK.due("FETCH", x.run(0, 1), 1);
            CHECK.due("FETCH, cause", x.host(0, 69), 1);
            CHECK.due("FETCH, value", x.host(0, 70), end);
            CHECK.due("FETCH, back", x.host(0, 68), end);
            CHECK.due("FETCH, place", x.host(0, 2), 0);
            CHECK.due("FETCH counts", x.host(0, 1), 5);
        }
        for (int far : new int[] {-4, MIN, MAX - 3, 65536}) {
            ReplayHosts x = ran(new Asm().li(1, far).jalr(0, 1, 0).word(0));
            CHECK.due("FETCH from " + far, x.host(0, 69), 1);
            CHECK.due("FETCH from " + far, x.host(0, 70), unsigned(far));
        }
    }

    /** "STATUS (bits 3 and 7 alone can be 1), ENABLED (bits 7 and 11 alone), VECTOR, BACK (lowest two bits are 0)". */
    private static void controlBits() {
        for (int i = 0; i < CONTROL.length; i++) {
            for (int k = 0; k < 32; k++) {
                int bit = 1 << k;
                int has = bit & CONTROL_BITS[i];
                String what = "bit " + k + " of " + CONTROL[i];
                ReplayHosts x = ran(new Asm().li(1, bit).csr(1, 3, CONTROL[i], 1).csr(2, 4, CONTROL[i], 0));
                CHECK.due(what + " is written", x.host(0, 64 + i), unsigned(has));
                register(what + " was 0", x, 3, 0);
                register(what + " is read", x, 4, has);
                x = ran(new Asm().li(1, bit).csr(2, 3, CONTROL[i], 1));
                CHECK.due(what + " is put in", x.host(0, 64 + i), unsigned(has));
                x = ran(new Asm().li(1, bit).addi(2, 0, -1).csr(1, 0, CONTROL[i], 2).csr(3, 3, CONTROL[i], 1));
                CHECK.due(what + " is taken away", x.host(0, 64 + i), unsigned(CONTROL_BITS[i] & ~bit));
                register(what + ", d is what was there", x, 3, CONTROL_BITS[i]);
            }
        }
    }

    /** "5, 6, 7: with the number A in place of a": 0 .. 31, not the register of that number. */
    private static void controlWithNumbers() {
        for (int i = 0; i < CONTROL.length; i++) {
            for (int number : new int[] {1, 3, 8, 16, 31}) {
                Asm fill = new Asm().addi(1, 0, -1).addi(3, 0, -1).addi(8, 0, -1).addi(16, 0, -1).addi(31, 0, -1).csr(5, 0, CONTROL[i], 9);
                int had = 9 & CONTROL_BITS[i];
                int[] becomes = {number, had | number, had & ~number};
                for (int f = 5; f < 8; f++) {
                    Asm asm = new Asm();
                    for (int w : fill.words()) {
                        asm.word(w);
                    }
                    ReplayHosts x = ran(asm.csr(f, 4, CONTROL[i], number));
                    CHECK.due("F " + f + " of " + CONTROL[i] + " with " + number, x.host(0, 64 + i), unsigned(becomes[f - 5] & CONTROL_BITS[i]));
                    register("F " + f + " of " + CONTROL[i], x, 4, had);
                }
            }
        }
    }

    /** "of 2, 3, 6, 7 with A 0 it is only read; of one that is read alone anything else is no instruction". */
    private static void controlThatIsOnlyRead() {
        for (int i = 0; i < CONTROL.length; i++) {
            int has = 31 & CONTROL_BITS[i];
            for (int f : new int[] {2, 3, 6, 7}) {
                ReplayHosts x = ran(new Asm().csr(5, 0, CONTROL[i], 31).csr(f, 3, CONTROL[i], 0));
                CHECK.due("only read", x.host(0, 64 + i), has);
                register("only read", x, 3, has);
            }
            for (int f : new int[] {1, 5}) {
                ReplayHosts x = ran(new Asm().csr(5, 0, CONTROL[i], 31).csr(f, 3, CONTROL[i], 0));
                CHECK.due("0 is written", x.host(0, 64 + i), 0);
                register("0 is written", x, 3, has);
            }
        }
        for (int which : new int[] {Asm.PENDING, Asm.COUNT, Asm.COUNT_HIGH}) {
            for (int f : new int[] {1, 2, 3, 5, 6, 7}) {
                for (int number : new int[] {0, 1, 31}) {
                    int w = one(new Asm().csr(f, 3, which, number));
                    boolean read = number == 0 && f % 4 != 1;
                    if (read) {
                        gives("read " + which, 0, 0, w, which == Asm.COUNT ? 4 : 0);
                    } else {
                        // Register 1 is 0 here: that its bits change nothing doesn't make it one.
                        traps("F " + f + " of " + which, 0, 0, w, 2, w);
                        w = one(new Asm().csr(f, 0, which, number));
                        traps("F " + f + " of " + which + " to x0", 0, 0, w, 2, w);
                    }
                }
            }
        }
    }

    /** "a register I that there is not: cause 2, value w": all of the 4096 but ten. */
    private static void controlsThatThereAreNot() {
        for (int which = 0; which < 4096; which++) {
            boolean is = which >= 832 && which <= 836 || which == 768 || which == 772 || which == 773 || which == 3074 || which == 3202;
            int w = one(new Asm().csr(2 + which % 2 + which / 2 % 2 * 4, 3, which, 0));
            ReplayHosts x = ran(new Asm().addi(1, 0, 1).addi(3, 0, 77).word(w));
            CHECK.due("control register " + which + ", cause", x.host(0, 69), is ? 0 : 2);
            CHECK.due("control register " + which + ", value", x.host(0, 70), is ? 0 : unsigned(w));
            register("control register " + which, x, 3, is ? which == Asm.COUNT ? 2 : 0 : 77);
        }
    }

    /** "All others ..: cause 2, value w": each OPCODE, and each F and G of those that ask for some. */
    private static void wordsThatAreNoInstructions() {
        for (int opcode = 0; opcode < 128; opcode++) {
            for (int f = 0; f < 8; f++) {
                for (int g : new int[] {0, 1, 2, 16, 31, 32, 33, 48, 64, 96, 127}) {
                    int w = opcode | f << 12 | g << 25 | 3 << 7 | 1 << 15 | 2 << 20;
                    noInstruction(w, opcode, f, g);
                }
            }
        }
        for (int w : new int[] {115, 1048691, 807403635, 273678451}) {
            for (int bit = 7; bit < 32; bit++) {
                int other = w ^ 1 << bit;
                boolean is = other == 115 || other == 1048691 || bit == 12 || bit == 13;
                if (!is) {
                    traps("one bit off " + w, 0, 0, other, 2, other);
                }
            }
        }
    }

    private static void noInstruction(int w, int opcode, int f, int g) {
        boolean is;
        switch (opcode) {
            case 55: case 23: case 111: case 15: is = true; break;
            case 103: is = f == 0; break;
            case 99: is = f != 2 && f != 3; break;
            case 3: is = f != 3 && f < 6; break;
            case 35: is = f < 3; break;
            case 19: is = f != 1 && f != 5 || g == 0 || f == 5 && g == 32; break;
            case 51: is = g == 0 || g == 32 && (f == 0 || f == 5); break;
            default: is = false; break;
        }
        if (!is) {
            traps("no instruction: " + opcode + ", F " + f + ", G " + g, 0x100, 0x100, w, 2, w);
            return;
        }
        ReplayHosts x = ran(new Asm().addi(1, 0, 0x100).addi(2, 0, 0x100).word(w));
        CHECK.yes("an instruction: " + opcode + ", F " + f + ", G " + g, x.host(0, 69) != 2);
    }

    private static Asm status(int bits) {
        return new Asm().addi(1, 0, bits).csr(1, 0, Asm.STATUS, 1).addi(2, 0, 0x47).csr(1, 0, Asm.BACK, 2).csr(1, 0, Asm.VECTOR, 2);
    }

    /** "bit 7 of STATUS what bit 3 is, bit 3 is 0". */
    private static void statusInTraps() {
        int[][] cases = {{0, 0}, {0x80, 0}, {8, 0x80}, {0x88, 0x80}};
        for (int[] c : cases) {
            ReplayHosts x = ran(status(c[0]).word(115));
            CHECK.due("a TRAP with STATUS " + c[0], x.host(0, 64), c[1]);
            CHECK.due("to VECTOR", x.host(0, 2), 0x44);
            CHECK.due("BACK", x.host(0, 68), 20);
            CHECK.due("cause", x.host(0, 69), 11);
            CHECK.due("value", x.host(0, 70), 0);
            x = ran(status(c[0]).word(1048691));
            CHECK.due("a break's cause", x.host(0, 69), 3);
            CHECK.due("a break with STATUS " + c[0], x.host(0, 64), c[1]);
            CHECK.due("its value", x.host(0, 70), 20);
        }
    }

    /** "807403635: the PLACE becomes BACK, bit 3 of STATUS what bit 7 is, bit 7 is 1". */
    private static void statusInReturns() {
        int[][] cases = {{0, 0x80}, {0x80, 0x88}, {8, 0x80}, {0x88, 0x88}};
        for (int[] c : cases) {
            ReplayHosts x = ran(status(c[0]).back());
            CHECK.due("back with STATUS " + c[0], x.host(0, 64), c[1]);
            CHECK.due("back to BACK", x.host(0, 2), 0x44);
            CHECK.due("BACK stays", x.host(0, 68), 0x44);
        }
    }

    /** ENABLED gets these bits, then the guest sleeps; 5 steps. */
    private static Asm sleeper(int bits) {
        return new Asm().li(2, bits).csr(1, 0, Asm.ENABLED, 2).devices().sleep();
    }

    /** "If the guest is ASLEEP, and PENDING and ENABLED have no bit in common, there is no step". */
    private static void sleeping() {
        for (int bits : new int[] {0, 0x80, 0x800, 0x880}) {
            boolean wakes = (bits & 0x800) != 0;
            for (boolean key : new boolean[] {true, false}) {
                ReplayHosts x = sleeper(bits).sleep().addi(4, 4, 1).booted(2, 4, 4);
                CHECK.due("up to its sleep", x.run(0, 100), 5);
                CHECK.due("ASLEEP", x.run(0, 100), 0);
                CHECK.yes("a key or a packet", key ? x.key(1) : x.packet(1, 0, 0, 0, 0));
                CHECK.due("it wakes, sleeps, and wakes at once", x.run(0, 2), wakes ? 2 : 0);
                CHECK.due("awake or ASLEEP", x.host(0, 3), wakes ? 0 : 1);
                CHECK.due("no step, no COUNT", x.host(0, 1), wakes ? 7 : 5);
                CHECK.due("no step, no PLACE", x.host(0, 2), wakes ? 28 : 20);
            }
        }
        clockWakes();
    }

    private static void clockWakes() {
        for (int bits : new int[] {0, 0x80, 0x800, 0x880}) {
            Asm asm = new Asm().li(2, bits).csr(1, 0, Asm.ENABLED, 2).devices().addi(3, 0, 2).sw(3, 1, Asm.COMPARE).sleep().addi(4, 4, 1).jal(0, -4);
            ReplayHosts x = asm.booted(2, 4, 4);
            CHECK.due("up to its sleep", x.run(0, 100), 7);
            x.tick();
            CHECK.due("CLOCK is less", x.run(0, 100), 0);
            CHECK.due("ASLEEP", x.host(0, 3), 1);
            x.tick();
            boolean wakes = (bits & 0x80) != 0;
            CHECK.due("none of run(0, 0)", x.run(0, 0), 0);
            CHECK.due("no step, not looked at", x.host(0, 3), 1);
            CHECK.due("CLOCK is not less", x.run(0, 100), wakes ? 100 : 0);
            CHECK.due("awake or ASLEEP", x.host(0, 3), wakes ? 0 : 1);
            CHECK.due("STATUS' bit 3 is 0: no TRAP", x.host(0, 69), 0);
        }
    }

    /** "else it is awake (also if no step is made then)". */
    private static void awakeThoughNoStepIsMade() {
        ReplayHosts x = Programs.paired(sleeper(0x800).sw(0, 1, Asm.CONSOLE).sw(0, 1, Asm.CONSOLE), 2, 1);
        x.run(0, 5);
        CHECK.due("ASLEEP", x.host(0, 3), 1);
        CHECK.due("ASLEEP", x.run(0, 1), 0);
        CHECK.due("ASLEEP", x.host(0, 3), 1);
        x.key(1);
        CHECK.due("ASLEEP till a step is to be made", x.host(0, 3), 1);
        CHECK.due("STALLED", x.run(0, 1), 0);
        CHECK.due("awake", x.host(0, 3), 0);
        CHECK.due("no step", x.host(0, 1), 5);
    }

    /** "if bit 3 of STATUS is 1 and they have one in common: a TRAP of cause -2147483648 + that bit's number (11 ahead of 7), value 0". */
    private static void interrupts() {
        for (int bits : new int[] {0, 0x80, 0x800, 0x880}) {
            for (int pending : new int[] {0, 0x80, 0x800, 0x880}) {
                for (int on : new int[] {0, 8}) {
                    Asm asm = new Asm().addi(7, 0, HANDLER).csr(1, 0, Asm.VECTOR, 7).li(2, bits).csr(1, 0, Asm.ENABLED, 2).devices();
                    asm.addi(3, 0, 1).sw(3, 1, Asm.COMPARE).csr(5, 0, Asm.VALUE, 9).csr(5, 0, Asm.STATUS, on).addi(4, 0, 1);
                    ReplayHosts x = asm.booted(2, 4, 4);
                    x.run(0, 10);
                    if ((pending & 0x80) != 0) {
                        x.tick();
                    }
                    if ((pending & 0x800) != 0) {
                        x.key(1);
                    }
                    String what = "ENABLED " + bits + ", PENDING " + pending + ", STATUS " + on;
                    CHECK.due(what, x.host(0, 71), pending);
                    CHECK.due(what, x.run(0, 1), 1);
                    int both = bits & pending;
                    boolean trap = on != 0 && both != 0;
                    CHECK.due(what + ", cause", x.host(0, 69), !trap ? 0 : (both & 0x800) != 0 ? 0x8000000BL : 0x80000007L);
                    CHECK.due(what + ", value", x.host(0, 70), trap ? 0 : 9);
                    CHECK.due(what + ", place", x.host(0, 2), trap ? HANDLER : 44);
                    CHECK.due(what + ", back", x.host(0, 68), trap ? 40 : 0);
                    CHECK.due(what + ", STATUS", x.host(0, 64), trap ? 0x80 : on);
                    CHECK.due(what + ", COUNT", x.host(0, 1), 11);
                    register(what + ", carried out", x, 4, trap ? 0 : 1);
                    if (trap) {
                        x.run(0, 1);
                        CHECK.due(what + ", none in an interrupt: the handler's word is carried out", x.host(0, 69), 2);
                    }
                }
            }
        }
    }

    /** The interrupt's TRAP "is the step": ahead of a FETCH, and of whatever the word would be. */
    private static void interruptsAheadOfTraps() {
        for (int w : new int[] {0, 115, 1048691, 807403635, 273678451, one(new Asm().jal(0, 2)), one(new Asm().sw(1, 1, 12)), one(new Asm().lw(5, 1, 8))}) {
            Asm asm = new Asm().addi(7, 0, HANDLER).csr(1, 0, Asm.VECTOR, 7).li(2, 0x800).csr(1, 0, Asm.ENABLED, 2).devices().csr(5, 0, Asm.STATUS, 8);
            ReplayHosts x = asm.word(w).booted(2, 4, 4);
            x.run(0, 7);
            x.key(5);
            x.run(0, 1);
            CHECK.due("ahead of " + w, x.host(0, 69), 0x8000000BL);
            CHECK.due("ahead of " + w, x.host(0, 68), 28);
            CHECK.due("nothing put out", x.host(0, 4), 0);
            CHECK.due("not ASLEEP", x.host(0, 3), 0);
            CHECK.due("the key waits", x.host(0, 12), 1);
        }
        Asm asm = new Asm().addi(7, 0, HANDLER).csr(1, 0, Asm.VECTOR, 7).li(2, 0x800).csr(1, 0, Asm.ENABLED, 2).csr(5, 0, Asm.STATUS, 8).jal(0, 0x400);
        ReplayHosts x = asm.booted(2, 4, 4);
        x.run(0, 7);
        x.key(5);
        x.run(0, 1);
        CHECK.due("ahead of a FETCH", x.host(0, 69), 0x8000000BL);
        CHECK.due("BACK is beyond MEMORY", x.host(0, 68), 24 + 0x400);
        // ASLEEP: the way back is behind the word that slept.
        asm = new Asm().addi(7, 0, HANDLER).csr(1, 0, Asm.VECTOR, 7).li(2, 0x800).csr(1, 0, Asm.ENABLED, 2).csr(5, 0, Asm.STATUS, 8).sleep();
        x = asm.booted(2, 4, 4);
        x.run(0, 100);
        x.key(5);
        x.run(0, 1);
        CHECK.due("awake by an interrupt", x.host(0, 3), 0);
        CHECK.due("its way back", x.host(0, 68), 28);
    }

    /** "A STEP makes the COUNT one more .. at the step's end"; "3074 and 3202 the COUNT's lower and upper half". */
    private static void counting() {
        ReplayHosts x = new Asm().csr(2, 3, Asm.COUNT, 0).csr(2, 4, Asm.COUNT_HIGH, 0).jal(0, -8).booted(2, 4, 4);
        long count = 0;
        for (int i = 0; i < 500; i++) {
            count += x.run(0, 2000);
        }
        CHECK.due("COUNT", x.host(0, 1), 1_000_000);
        CHECK.due("COUNT", count, 1_000_000);
        CHECK.due("read by the step that makes the COUNT 1 more", x.host(0, 35), 999_999);
        CHECK.due("the upper half", x.host(0, 36), 0);
    }
}
