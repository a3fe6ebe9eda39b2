/** The guest machine: its steps, instructions, traps, control registers and devices. */
public final class GuestTest extends GuestCheck {
    public static void main(String[] args) {
        numbers();
        registers();
        jumps();
        branches();
        loadsAndStores();
        noInstructions();
        places();
        wholeWords();
        controlRegisters();
        counts();
        sleepAndInterrupts();
        keysAndConsole();
        clock();
        packets();
        diskDevice();
        deviceEdges();
        CHECK.end();
    }

    private static void numbers() {
        gives("add", 5, 0, imm(0, -7), -2);
        gives("add goes round", MAX, 0, imm(0, 1), MIN);
        gives("less", -1, 0, imm(2, 0), 1);
        gives("less", 0, 0, imm(2, -1), 0);
        gives("less unsigned", -1, 0, imm(3, 0), 0);
        gives("less unsigned", 5, 0, imm(3, -1), 1);
        gives("exclusive or", 0x0F0F, 0, imm(4, -1), ~0x0F0F);
        gives("or", 0x0F00, 0, imm(6, 0x0FF), 0x0FFF);
        gives("and", 0x0FF0, 0, imm(7, 0x0FF), 0x0F0);
        gives("and", 0x7FFFFFF0, 0, imm(7, -1), 0x7FFFFFF0);
        gives("up", 3, 0, imm(1, 31), MIN);
        gives("down", -8, 0, imm(5, 1), 0x7FFFFFFC);
        gives("down signed", -8, 0, imm(5, 1 | 32 << 5), -4);
        gives("upper", 0, 0, one(new Asm().lui(3, 0xABCDE)), 0xABCDE000);
        gives("place + upper", 0, 0, one(new Asm().auipc(3, 0xFFFFF)), 16 - 4096);
    }

    private static void registers() {
        gives("add", 5, -7, reg(0, 0), -2);
        gives("subtract", 5, -7, reg(32, 0), 12);
        gives("subtract goes round", MIN, 1, reg(32, 0), MAX);
        gives("up", 1, 33, reg(0, 1), 2);
        gives("less", MIN, 1, reg(0, 2), 1);
        gives("less unsigned", MIN, 1, reg(0, 3), 0);
        gives("less unsigned", 1, MIN, reg(0, 3), 1);
        gives("exclusive or", 12, 10, reg(0, 4), 6);
        gives("down", -2, 32 + 1, reg(0, 5), MAX);
        gives("down signed", -2, 32 + 1, reg(32, 5), -1);
        gives("or", 12, 10, reg(0, 6), 14);
        gives("and", 12, 10, reg(0, 7), 8);
        ReplayHosts x = ran(new Asm().addi(0, 0, 5).lui(0, 1).jal(0, 4).addi(3, 0, 1));
        register("x0 stays", x, 0, 0);
        register("x0 counts 0", x, 3, 1);
        for (int f = 0; f < 8; f++) {
            gives("15 is nothing", 1, 2, 15 | f << 12 | 0xABC << 20 | 3 << 7, 0);
        }
    }

    private static void jumps() {
        Asm forth = new Asm().jal(1, 12).addi(2, 0, 1).addi(2, 0, 2).addi(3, 0, 3);
        ReplayHosts x = forth.booted(2, 4, 4);
        x.run(0, 2);
        register("jump's way back", x, 1, 4);
        register("jumped over", x, 2, 0);
        register("jumped to", x, 3, 3);
        x = new Asm().addi(1, 0, 1).jal(2, -4).booted(2, 4, 4);
        x.run(0, 2);
        CHECK.due("jump back", x.host(0, 2), 0);
        x = new Asm().jal(2, 0x12344).booted(2, 4, 4);
        x.run(0, 1);
        CHECK.due("jump far", x.host(0, 2), 0x12344);
        x = new Asm().jal(2, -0x100000).booted(2, 4, 4);
        x.run(0, 1);
        CHECK.due("jump round", x.host(0, 2), unsigned(-0x100000));
        x = new Asm().addi(1, 0, 21).jalr(1, 1, 4).booted(2, 4, 4);
        x.run(0, 2);
        CHECK.due("jump to a register without its lowest bit", x.host(0, 2), 24);
        register("jump from and to one register", x, 1, 8);
        traps("jump to no multiple of 4", 0, 0, one(new Asm().jal(3, 6)), 0, 40 + 6);
        traps("jump to a register that is none", 0x101, 0, one(new Asm().jalr(3, 1, 1)), 0, 0x102);
        x = new Asm().addi(1, 0, 0x101).jalr(0, 1, -1).booted(2, 4, 4);
        x.run(0, 2);
        CHECK.due("jump to a register, downwards", x.host(0, 2), 0x100);
    }

    private static void branches() {
        int[][] pairs = {{1, 1}, {1, 2}, {2, 1}, {-1, 1}, {1, -1}, {MIN, MAX}};
        for (int[] pair : pairs) {
            int p = pair[0];
            int q = pair[1];
            boolean less = p < q;
            boolean lessUnsigned = Integer.compareUnsigned(p, q) < 0;
            branches(p, q, 0, p == q);
            branches(p, q, 1, p != q);
            branches(p, q, 4, less);
            branches(p, q, 5, !less);
            branches(p, q, 6, lessUnsigned);
            branches(p, q, 7, !lessUnsigned);
        }
        ReplayHosts x = new Asm().branch(1, 0, 0, 6).booted(2, 4, 4);
        x.run(0, 1);
        CHECK.due("a branch that isn't taken asks nothing", x.host(0, 2), 4);
        traps("branch to no multiple of 4", 0, 0, one(new Asm().branch(0, 0, 0, -6)), 0, 40 - 6);
        x = new Asm().branch(0, 0, 0, 0xFFC).booted(2, 4, 4);
        x.run(0, 1);
        CHECK.due("branch far", x.host(0, 2), 0xFFC);
        x = new Asm().branch(0, 0, 0, -4096).booted(2, 4, 4);
        x.run(0, 1);
        CHECK.due("branch round", x.host(0, 2), unsigned(-4096));
    }

    private static void branches(int p, int q, int f, boolean taken) {
        ReplayHosts x = ran(new Asm().li(1, p).li(2, q).branch(f, 1, 2, -8));
        CHECK.due("branch " + f + " of " + p + ", " + q, x.host(0, 2), taken ? 8 : 20);
    }

    private static void loadsAndStores() {
        Asm asm = new Asm().li(1, 0x100).li(2, 0x8182F384).sw(2, 1, 4);
        asm.load(0, 3, 1, 4).load(1, 4, 1, 4).load(2, 5, 1, 4).load(4, 6, 1, 4).load(5, 7, 1, 4);
        asm.load(0, 8, 1, 7).load(5, 9, 1, 6).store(0, 2, 1, -1).store(1, 2, 1, -4).load(2, 10, 1, -4);
        ReplayHosts x = ran(asm);
        register("byte signed", x, 3, 0xFFFFFF84);
        register("half signed", x, 4, 0xFFFFF384);
        register("word", x, 5, 0x8182F384);
        register("byte", x, 6, 0x84);
        register("half", x, 7, 0xF384);
        register("last byte signed", x, 8, 0xFFFFFF81);
        register("last half", x, 9, 0x8182);
        register("stored byte and half", x, 10, 0x8400F384);
        CHECK.due("lowest byte first", x.memory(0, 0x104), 0x84);
        CHECK.due("highest byte last", x.memory(0, 0x107), 0x81);
        addressTraps();
    }

    private static void addressTraps() {
        traps("half at an odd address", 0x100, 0, loadWord(1, 1), 4, 0x101);
        traps("half at an odd address", 0x100, 0, loadWord(5, -1), 4, 0xFF);
        traps("word at no multiple of 4", 0x100, 0, loadWord(2, 2), 4, 0x102);
        traps("half stored at an odd address", 0x100, 0, storeWord(1, 1), 6, 0x101);
        traps("word stored at no multiple of 4", 0x100, 0, storeWord(2, -2), 6, 0xFE);
        traps("word beyond, and no multiple", 65536, 0, loadWord(2, 2), 4, 65538);
        for (int f : new int[] {0, 1, 2, 4, 5}) {
            traps("load beyond", 1024, 0, loadWord(f, 0), 5, 1024);
            traps("load beyond", -4, 0, loadWord(f, 0), 5, -4);
        }
        for (int f = 0; f < 3; f++) {
            traps("store beyond", 1024, 0, storeWord(f, 0), 7, 1024);
            traps("store beyond", -4, 0, storeWord(f, 0), 7, -4);
        }
        for (int f : new int[] {0, 1, 4, 5}) {
            traps("a device has words alone", 65536, 0, loadWord(f, 8), 5, 65544);
        }
        traps("a device has words alone", 65536, 0, storeWord(0, 12), 7, 65548);
        traps("a device has words alone", 65536, 0, storeWord(1, 12), 7, 65548);
        traps("behind the last device", 65536, 0, loadWord(2, 44), 5, 65580);
        traps("behind the last device", 65536, 0, storeWord(2, 44), 7, 65580);
        traps("ahead of the first device", 65536, 0, storeWord(2, -4), 7, 65532);
        ReplayHosts x = ran(new Asm().li(1, 1020).addi(2, 0, -1).sw(2, 1, 0).store(0, 0, 1, 3));
        CHECK.due("MEMORY's last word", x.memory(0, 1022), 255);
        CHECK.due("MEMORY's last byte", x.memory(0, 1023), 0);
    }

    private static void noInstructions() {
        int[] words = {
            0, -1, 3 | 3 << 12 | 1 << 15, 3 | 6 << 12, 3 | 7 << 12, 35 | 3 << 12, 35 | 7 << 12, 99 | 2 << 12, 99 | 3 << 12,
            103 | 1 << 12, 103 | 7 << 12, imm(1, 32), imm(1, 32 << 5), imm(5, 1 << 5), imm(5, 64 << 5), imm(5, 33 << 5), reg(1, 0), reg(32, 1),
            reg(32, 2), reg(32, 7), reg(64, 0), reg(33, 5), 115 | 1 << 7, 115 | 1 << 15, 115 | 2 << 20, 115 | 4 << 12,
            807403635 | 1 << 7, 273678451 | 1 << 15, 115 | 5 << 20, 7, 39, 47, 67, 1, 2, 127, 111 - 64,
        };
        for (int w : words) {
            traps("no instruction " + w, 0, 0, w, 2, w);
        }
        for (int which : new int[] {0, 769, 771, 774, 831, 837, 3072, 3073, 3075, 3200, 4095}) {
            for (int f : new int[] {1, 2, 3, 5, 6, 7}) {
                int w = one(new Asm().csr(f, 3, which, 0));
                traps("no control register " + which, 0, 0, w, 2, w);
            }
        }
        for (int which : new int[] {836, 3074, 3202}) {
            for (int f : new int[] {1, 5}) {
                int w = one(new Asm().csr(f, 3, which, 0));
                traps("written, but read alone " + which, 0, 0, w, 2, w);
            }
            for (int f : new int[] {2, 3, 6, 7}) {
                int w = one(new Asm().csr(f, 3, which, 5));
                traps("changed, but read alone " + which, 0, 0, w, 2, w);
                gives("only read " + which, 0, 0, one(new Asm().csr(f, 3, which, 0)), which == 3074 ? 4 : 0);
            }
        }
    }

    private static void places() {
        ReplayHosts x = new Asm().li(1, 1024).jalr(0, 1, 0).at(0x20).booted(2, 4, 4);
        x.run(0, 4);
        CHECK.due("FETCH cause", x.host(0, 69), 1);
        CHECK.due("FETCH value", x.host(0, 70), 1024);
        CHECK.due("FETCH back", x.host(0, 68), 1024);
        CHECK.due("to VECTOR, 0 at first", x.host(0, 2), 0);
        CHECK.due("a FETCH counts", x.host(0, 1), 4);
        x = new Asm().jal(0, 1020).at(1020).addi(1, 1, 1).booted(2, 4, 4);
        x.run(0, 2);
        CHECK.due("the last word is carried out", x.host(0, 2), 1024);
        x = new Asm().addi(1, 0, -4).jalr(0, 1, 0).booted(2, 4, 4);
        x.run(0, 2);
        CHECK.due("the highest place", x.host(0, 2), unsigned(-4));
        x.run(0, 1);
        CHECK.due("FETCH from the highest place", x.host(0, 70), unsigned(-4));
    }

    private static void wholeWords() {
        traps("call", 0, 0, 115, 11, 0);
        traps("break", 0, 0, 1048691, 3, 40);
        Asm asm = new Asm().addi(1, 0, 0x47).csr(1, 0, Asm.BACK, 1).csr(5, 0, Asm.STATUS, 8).back();
        ReplayHosts x = ran(asm);
        CHECK.due("back to BACK", x.host(0, 2), 0x44);
        CHECK.due("back with bit 7 off", x.host(0, 64), 0x80);
        x = ran(new Asm().addi(1, 0, 0x80).csr(1, 0, Asm.STATUS, 1).csr(5, 0, Asm.BACK, 16).back());
        CHECK.due("back with bit 7 on", x.host(0, 64), 0x88);
        CHECK.due("back to BACK", x.host(0, 2), 16);
        x = ran(new Asm().addi(1, 0, 0x80).csr(1, 0, Asm.STATUS, 1).word(115));
        CHECK.due("a TRAP with bit 3 off", x.host(0, 64), 0);
        x = ran(new Asm().sleep());
        CHECK.due("ASLEEP", x.host(0, 3), 1);
        CHECK.due("ASLEEP behind its word", x.host(0, 2), 4);
    }

    private static void controlRegisters() {
        int[] which = {Asm.STATUS, Asm.ENABLED, Asm.VECTOR, Asm.SCRATCH, Asm.BACK, Asm.CAUSE, Asm.VALUE};
        int[] bits = {0x88, 0x880, -4, -1, -4, -1, -1};
        for (int i = 0; i < which.length; i++) {
            String what = "control register " + which[i];
            ReplayHosts x = ran(new Asm().addi(1, 0, -1).csr(1, 2, which[i], 1).csr(2, 3, which[i], 0));
            register(what + " was", x, 2, 0);
            register(what + " has", x, 3, bits[i]);
            CHECK.due(what, x.host(0, 64 + i), unsigned(bits[i]));
            int k = bits[i] & 0x8C;
            x = ran(new Asm().addi(1, 0, 0x8C).csr(2, 0, which[i], 1).addi(1, 0, 8).csr(3, 4, which[i], 1));
            CHECK.due(what + " with and without bits", x.host(0, 64 + i), k & ~8);
            register(what + " before", x, 4, k);
            x = ran(new Asm().csr(5, 0, which[i], 31).csr(7, 0, which[i], 4).csr(6, 5, which[i], 9));
            CHECK.due(what + " with numbers", x.host(0, 64 + i), ((31 & bits[i]) & ~4 | 9) & bits[i]);
            register(what + " before", x, 5, 31 & bits[i] & ~4);
            x = ran(new Asm().csr(5, 0, which[i], 31).csr(1, 0, which[i], 0));
            CHECK.due(what + " written from x0", x.host(0, 64 + i), 0);
            x = ran(new Asm().csr(5, 0, which[i], 31).addi(6, 0, 3).csr(1, 6, which[i], 6));
            register(what + " into the register it comes from", x, 6, 31 & bits[i]);
            CHECK.due(what + " from the register it goes to", x.host(0, 64 + i), 3 & bits[i]);
        }
    }

    private static void counts() {
        ReplayHosts x = ran(new Asm().addi(1, 0, 1).addi(1, 0, 1).csr(2, 3, Asm.COUNT, 0).csr(2, 4, Asm.COUNT_HIGH, 0));
        register("COUNT in a step is that ahead of it", x, 3, 2);
        register("COUNT's upper half", x, 4, 0);
        CHECK.due("COUNT", x.host(0, 1), 4);
    }

    /** Enables interrupts of these bits, with the handler at HANDLER; 4 steps. */
    private static Asm enabled(int bits) {
        return new Asm().li(2, HANDLER).csr(1, 0, Asm.VECTOR, 2).li(3, bits).csr(1, 0, Asm.ENABLED, 3).devices();
    }

    private static void sleepAndInterrupts() {
        ReplayHosts x = enabled(0x800).sleep().addi(5, 5, 1).jal(0, -4).booted(2, 4, 4);
        CHECK.due("falls ASLEEP", x.run(0, 100), 8);
        CHECK.due("is ASLEEP", x.run(0, 100), 0);
        CHECK.yes("tick", x.tick());
        CHECK.due("a TICK wakes not", x.run(0, 100), 0);
        CHECK.due("ASLEEP yet", x.host(0, 3), 1);
        CHECK.yes("key", x.key(1));
        CHECK.due("ASLEEP till the next step", x.host(0, 3), 1);
        CHECK.due("awake", x.run(0, 1), 1);
        CHECK.due("awake", x.host(0, 3), 0);
        CHECK.due("with bit 3 of STATUS 0 it goes on", x.host(0, 37), 1);
        CHECK.due("no TRAP", x.host(0, 69), 0);

        x = enabled(0x880).csr(5, 0, Asm.STATUS, 8).addi(4, 0, 1).sw(4, 1, Asm.COMPARE).sleep().booted(2, 4, 4);
        x.run(0, 100);
        CHECK.yes("tick", x.tick());
        CHECK.due("one step", x.run(0, 1), 1);
        CHECK.due("the clock's TRAP", x.host(0, 69), 0x80000007L);
        CHECK.due("its value", x.host(0, 70), 0);
        CHECK.due("its place", x.host(0, 2), HANDLER);
        CHECK.due("its way back", x.host(0, 68), 44);
        CHECK.due("it counts", x.host(0, 1), 12);
        CHECK.due("PENDING", x.host(0, 71), 0x80);

        x = enabled(0x880).addi(4, 0, 1).sw(4, 1, Asm.COMPARE).csr(5, 0, Asm.STATUS, 8).booted(2, 4, 4);
        x.tick();
        x.key(1);
        CHECK.due("no TRAP with bit 3 of STATUS 0", x.run(0, 10), 10);
        CHECK.due("no TRAP", x.host(0, 2), 40);
        CHECK.due("PENDING both", x.host(0, 71), 0x880);
        x.run(0, 1);
        CHECK.due("11 ahead of 7", x.host(0, 69), 0x8000000BL);

        x = enabled(0x080).csr(5, 0, Asm.STATUS, 8).addi(4, 4, 1).booted(2, 4, 4);
        x.key(1);
        x.run(0, 9);
        CHECK.due("PENDING, but not ENABLED", x.host(0, 69), 0);

        x = new Asm().jal(0, 0x400).booted(2, 4, 4);
        CHECK.due("steps outside of MEMORY", x.run(0, 2000), 2000);
    }

    private static void keysAndConsole() {
        Asm asm = new Asm().devices().lw(2, 1, Asm.KEY).lw(3, 1, Asm.KEY).lw(4, 1, Asm.KEY).lw(0, 1, Asm.KEY).lw(5, 1, Asm.KEY);
        asm.li(6, 0x1234FF).sw(6, 1, Asm.CONSOLE).sw(6, 1, Asm.KEY).lw(7, 1, Asm.CONSOLE);
        ReplayHosts x = asm.booted(2, 4, 4);
        x.key(0x1FF);
        x.key(-256);
        CHECK.due("keys wait", x.host(0, 12), 2);
        x.run(0, 4);
        register("the oldest key", x, 2, 255);
        register("the next", x, 3, 0);
        register("none", x, 4, -1);
        CHECK.due("none waits", x.host(0, 12), 0);
        x.key(7);
        x.key(8);
        x.run(0, 7);
        register("a key read into x0 goes", x, 5, 8);
        CHECK.outside("the lowest byte", x, 255);
        register("reading CONSOLE", x, 7, 0);
        x = new Asm().booted(2, 4, 4);
        for (int i = 0; i < 16; i++) {
            CHECK.yes("key " + i, x.key(i));
        }
        CHECK.no("the 17th key", x.key(1));
        CHECK.due("16 wait", x.host(0, 12), 16);
    }

    private static void clock() {
        Asm asm = new Asm().devices().lw(2, 1, Asm.CLOCK).sw(1, 1, Asm.CLOCK).lw(3, 1, Asm.CLOCK).lw(4, 1, Asm.COMPARE);
        asm.addi(5, 0, -1).sw(5, 1, Asm.COMPARE).lw(6, 1, Asm.COMPARE);
        ReplayHosts x = asm.booted(2, 4, 4);
        x.tick();
        x.tick();
        x.run(0, 8);
        register("CLOCK", x, 2, 2);
        register("CLOCK isn't written", x, 3, 2);
        register("COMPARE at first", x, 4, 0);
        register("COMPARE", x, 6, -1);
        CHECK.due("COMPARE", x.host(0, 10), 0xFFFFFFFFL);
        CHECK.due("CLOCK", x.host(0, 9), 2);
        CHECK.due("COMPARE is UNSIGNED", x.host(0, 71), 0);
        x = new Asm().devices().booted(2, 4, 4);
        x.tick();
        CHECK.due("COMPARE 0 is never reached", x.host(0, 71), 0);
        x = new Asm().devices().addi(2, 0, 2).sw(2, 1, Asm.COMPARE).booted(2, 4, 4);
        x.run(0, 3);
        x.tick();
        CHECK.due("CLOCK 1, COMPARE 2", x.host(0, 71), 0);
        x.tick();
        CHECK.due("CLOCK 2, COMPARE 2", x.host(0, 71), 128);
        x.tick();
        CHECK.due("CLOCK 3, COMPARE 2", x.host(0, 71), 128);
    }

    private static void packets() {
        Asm asm = new Asm().devices().lw(2, 1, Asm.RECEIVE).addi(3, 0, 0x101).sw(3, 1, Asm.RECEIVE).lw(4, 1, Asm.RECEIVE);
        asm.addi(5, 0, 1024 - 31).sw(5, 1, Asm.RECEIVE).lw(6, 1, Asm.RECEIVE);
        asm.addi(5, 0, 1024 - 32).sw(5, 1, Asm.RECEIVE).lw(7, 1, Asm.RECEIVE).sw(3, 1, Asm.RECEIVE);
        ReplayHosts x = asm.booted(2, 4, 4);
        CHECK.yes("packet of 1", x.packet(1, 0xABCL, 1, 2, 3));
        CHECK.yes("packet of 32", x.packet(32, 0x0807060504030201L, 0x100F0E0D0C0B0A09L, 0x1817161514131211L, 0x201F1E1D1C1B1A19L));
        CHECK.due("PENDING", x.host(0, 71), 0x800);
        x.run(0, 13);
        register("the oldest one's length", x, 2, 1);
        register("the next one's", x, 4, 32);
        register("too far up: it stays", x, 6, 32);
        register("gone", x, 7, 0);
        CHECK.due("received", x.memory(0, 0x101), 0xBC);
        CHECK.due("and no more", x.memory(0, 0x102), 0);
        for (int i = 0; i < 32; i++) {
            CHECK.due("received, byte " + i, x.memory(0, 1024 - 32 + i), i + 1);
        }
        CHECK.due("PENDING no more", x.host(0, 71), 0);
        sentPackets();
    }

    private static void sentPackets() {
        Asm asm = new Asm().devices().li(2, 0x100).li(3, 0xC3B2A1).sw(3, 2, 0);
        for (int length : new int[] {0, 33, -1, 3}) {
            asm.addi(4, 0, length).sw(4, 1, Asm.LENGTH).sw(2, 1, Asm.SEND);
        }
        asm.addi(5, 0, 1022).sw(5, 1, Asm.SEND).addi(5, 0, -2).sw(5, 1, Asm.SEND);
        asm.addi(5, 0, 1021).sw(5, 1, Asm.SEND).lw(6, 1, Asm.SEND).lw(7, 1, Asm.LENGTH);
        ReplayHosts x = ran(asm);
        CHECK.outside("sent", x, 256, 3, 0xA1, 0xB2, 0xC3, 256, 3, 0, 0, 0);
        CHECK.due("outputs", x.host(0, 4), 2);
        register("reading SEND", x, 6, 0);
        register("LENGTH", x, 7, 3);
        x = ran(new Asm().devices().addi(4, 0, 32).sw(4, 1, Asm.LENGTH).sw(0, 1, Asm.SEND));
        CHECK.due("a packet of 32", x.out(1), 32);
        CHECK.due("its last byte", x.out(33), 0);
        CHECK.due("and no more", x.out(34), -1);
    }

    private static void diskDevice() {
        Asm asm = new Asm().devices().li(2, 0x3C0).li(3, 0x01020304).sw(3, 2, 0).sw(2, 1, Asm.ADDRESS);
        asm.addi(4, 0, 7).sw(4, 1, Asm.BLOCK).addi(5, 0, 2).sw(5, 1, Asm.DISK).lw(6, 1, Asm.DISK).sw(0, 2, 0);
        asm.addi(5, 0, 1).sw(5, 1, Asm.DISK).sw(0, 1, Asm.DISK).lw(7, 1, Asm.DISK).sleep();
        ReplayHosts x = asm.booted(2, 4, 4);
        x.run(0, 100);
        register("BUSY", x, 6, 1);
        register("BUSY yet", x, 7, 1);
        CHECK.due("one output", x.host(0, 4), 1);
        CHECK.due("not yet", x.block(7, 0), 0);
        CHECK.yes("disk", x.disk());
        CHECK.due("the bytes as they were", x.block(7, 0), 4);
        CHECK.due("the bytes as they were", x.block(7, 3), 1);
        CHECK.due("DONE", x.host(0, 11), 2);
        CHECK.due("PENDING", x.host(0, 71), 0x800);
        CHECK.no("none waits", x.disk());

        asm = new Asm().devices().addi(5, 0, 2).addi(3, 0, 0x55).store(0, 3, 0, 0x200).addi(2, 0, 0x200).sw(2, 1, Asm.ADDRESS);
        asm.sw(5, 1, Asm.DISK).addi(6, 0, 0x2F0).sw(6, 1, Asm.ADDRESS).addi(5, 0, 1).jal(0, 0);
        x = asm.booted(2, 4, 4);
        x.run(0, 100);
        x.disk();
        CHECK.due("block 0", x.block(0, 0), 0x55);

        asm = new Asm().devices().addi(5, 0, 1).addi(3, 0, 0x2E0).sw(3, 1, Asm.ADDRESS).sw(5, 1, Asm.DISK).sw(0, 1, Asm.ADDRESS);
        asm.addi(4, 0, -1).sw(4, 0, 0x2DC).sw(4, 0, 0x2E0).sw(4, 0, 0x31C).sw(4, 0, 0x320).addi(6, 0, 3).sw(6, 1, Asm.DISK).jal(0, 0);
        x = asm.booted(2, 4, 4);
        x.run(0, 100);
        CHECK.due("as stored", x.memory(0, 0x2E0), 255);
        CHECK.yes("disk", x.disk());
        CHECK.due("ahead of what is read", x.memory(0, 0x2DF), 255);
        CHECK.due("read", x.memory(0, 0x2E0), 0);
        CHECK.due("read", x.memory(0, 0x31F), 0);
        CHECK.due("behind what is read", x.memory(0, 0x320), 255);
        diskStates();
    }

    private static void diskStates() {
        Asm asm = new Asm().devices().addi(5, 0, 1).sw(5, 1, Asm.DISK).sleep().sw(0, 1, Asm.DISK).lw(6, 1, Asm.DISK);
        asm.sw(5, 1, Asm.DISK).sleep().lw(7, 1, Asm.DISK).addi(8, 0, 3).sw(8, 1, Asm.DISK).lw(8, 1, Asm.DISK).sw(5, 1, Asm.DISK).lw(9, 1, Asm.DISK);
        Asm begin = new Asm().li(2, 0x800).csr(1, 0, Asm.ENABLED, 2).devices().addi(2, 0, 0x100).sw(2, 1, Asm.ADDRESS);
        for (int w : asm.words()) {
            begin.word(w);
        }
        ReplayHosts x = begin.booted(2, 4, 4);
        CHECK.due("ASLEEP", x.run(0, 100), 10);
        CHECK.yes("disk", x.disk());
        x.run(0, 100);
        register("IDLE", x, 6, 0);
        CHECK.yes("disk", x.disk());
        x.run(0, 7);
        register("DONE", x, 7, 2);
        register("3 is nothing", x, 8, 2);
        register("BUSY from DONE", x, 9, 1);
        CHECK.due("three outputs", x.host(0, 4), 3);

        int[][] refused = {{8, 0}, {-1, 0}, {0, 1024 - 63}, {0, -64}, {0, -1}, {0, 1024}};
        for (int[] r : refused) {
            x = ran(new Asm().devices().addi(5, 0, 1).li(2, r[0]).sw(2, 1, Asm.BLOCK).li(3, r[1]).sw(3, 1, Asm.ADDRESS).sw(5, 1, Asm.DISK));
            CHECK.due("block " + r[0] + ", address " + r[1], x.host(0, 11), 0);
            CHECK.no("nothing is put out", x.disk());
        }
        x = ran(new Asm().devices().addi(5, 0, 1).addi(3, 0, 1024 - 64).sw(3, 1, Asm.ADDRESS).sw(5, 1, Asm.DISK));
        CHECK.due("the last 64 bytes", x.host(0, 11), 1);
    }

    private static void deviceEdges() {
        for (int device : new int[] {Asm.BLOCK, Asm.ADDRESS, Asm.LENGTH, Asm.FRAME, Asm.COMPARE}) {
            ReplayHosts x = ran(new Asm().devices().lw(2, 1, device).li(3, 0x89ABCDEF).sw(3, 1, device).lw(4, 1, device));
            register("device " + device + " at first", x, 2, 0);
            register("device " + device, x, 4, 0x89ABCDEF);
        }
        ReplayHosts x = ran(new Asm().devices().sw(1, 1, Asm.RECEIVE).sw(1, 1, Asm.KEY).lw(2, 1, Asm.RECEIVE).lw(3, 1, Asm.DISK));
        register("no packet", x, 2, 0);
        register("IDLE at first", x, 3, 0);
        CHECK.due("no output", x.host(0, 4), 0);
    }
}
