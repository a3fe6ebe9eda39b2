/** The boundary cases that the document's sentences on DEVICES and EVENTS name. */
public final class DevicesEdgesTest extends GuestCheck {
    private static final int IDLE = 0;
    private static final int BUSY = 1;
    private static final int DONE = 2;

    public static void main(String[] args) {
        wordsAtFirst();
        wordsThatAreKept();
        readAloneAndWrittenAlone();
        addressesOfNoDevice();
        clockAndCompare();
        pendingFromOutside();
        keys();
        keysGoRound();
        consoleBytes();
        diskBlocks();
        diskAddresses();
        diskWrittenInEachState();
        diskRefusedWhenDone();
        operationStaysAsItWas();
        operationReads();
        sendLengths();
        sendAddresses();
        sentAsItIsNow();
        receiveAddresses();
        receiveWithoutAPacket();
        packetsGoRound();
        packetBytes();
        CHECK.end();
    }

    private static final int[] WORDS = {
        Asm.CLOCK, Asm.COMPARE, Asm.KEY, Asm.CONSOLE, Asm.BLOCK, Asm.ADDRESS, Asm.DISK, Asm.LENGTH, Asm.SEND, Asm.RECEIVE, Asm.FRAME,
    };

    private static void wordsAtFirst() {
        for (int device : WORDS) {
            ReplayHosts x = ran(new Asm().devices().addi(2, 0, 77).lw(2, 1, device));
            register("device " + device + " at first", x, 2, device == Asm.KEY ? -1 : 0);
            CHECK.due("reading puts nothing out", x.host(0, 4), 0);
        }
    }

    /** "BLOCK, .. ADDRESS, .. LENGTH, .. FRAME: read, written", and COMPARE: each has a number of its own, of 32 bits. */
    private static void wordsThatAreKept() {
        int[] kept = {Asm.COMPARE, Asm.BLOCK, Asm.ADDRESS, Asm.LENGTH, Asm.FRAME};
        for (int v : new int[] {1, -1, MIN, MAX}) {
            for (int device : kept) {
                Asm asm = new Asm().devices().li(2, v).sw(2, 1, device);
                for (int i = 0; i < kept.length; i++) {
                    asm.lw(10 + i, 1, kept[i]);
                }
                ReplayHosts x = ran(asm);
                for (int i = 0; i < kept.length; i++) {
                    register("device " + kept[i] + " when " + device + " is written", x, 10 + i, kept[i] == device ? v : 0);
                }
            }
        }
    }

    /** "Reading what is written alone: 0; writing what is read alone: nothing." */
    private static void readAloneAndWrittenAlone() {
        Asm asm = new Asm().devices().addi(2, 0, 5).sw(2, 1, Asm.CLOCK).sw(2, 1, Asm.KEY).lw(3, 1, Asm.CLOCK).lw(4, 1, Asm.KEY);
        ReplayHosts x = ran(asm);
        register("CLOCK isn't written", x, 3, 0);
        register("KEY isn't written", x, 4, -1);
        CHECK.due("nothing is put out", x.host(0, 4), 0);
        asm = new Asm().devices().addi(2, 0, 5).sw(2, 1, Asm.LENGTH).sw(2, 1, Asm.CONSOLE).sw(2, 1, Asm.SEND).lw(3, 1, Asm.CONSOLE).lw(4, 1, Asm.SEND);
        x = ran(asm);
        register("CONSOLE isn't read", x, 3, 0);
        register("SEND isn't read", x, 4, 0);
        CHECK.due("reading puts nothing out", x.host(0, 4), 2);
    }

    /** "All other addresses are no DEVICE's": those around, and a word's at no multiple of 4. */
    private static void addressesOfNoDevice() {
        for (int at : new int[] {65532, 65536 + 44, 65536 + 48, 65536 + 256, 131072, 65536 + MIN, -65536}) {
            traps("no DEVICE", at, 0, loadWord(2, 0), 5, at);
            traps("no DEVICE", at, 0, storeWord(2, 0), 7, at);
        }
        for (int device : WORDS) {
            int at = 65536 + device;
            for (int k = 1; k < 4; k++) {
                traps("no multiple of 4", at + k, 1, loadWord(2, 0), 4, at + k);
                traps("no multiple of 4", at + k, 1, storeWord(2, 0), 6, at + k);
            }
            for (int f : new int[] {0, 1, 4, 5}) {
                traps("for words alone", at, 1, loadWord(f, 0), 5, at);
            }
            for (int f = 0; f < 2; f++) {
                traps("for words alone", at, 1, storeWord(f, 0), 7, at);
            }
        }
    }

    /** "bit 7: CLOCK is, UNSIGNED, not less than COMPARE, and COMPARE isn't 0". */
    private static void clockAndCompare() {
        for (int ticks = 0; ticks < 4; ticks++) {
            for (int compare : new int[] {0, 1, 2, 3, 4, MAX, MIN, -1}) {
                ReplayHosts x = ran(new Asm().devices().li(2, compare).sw(2, 1, Asm.COMPARE));
                for (int i = 0; i < ticks; i++) {
                    CHECK.yes("tick", x.tick());
                }
                boolean due = compare > 0 && ticks >= compare;
                CHECK.due("PENDING with CLOCK " + ticks + ", COMPARE " + compare, x.host(0, 71), due ? 0x80 : 0);
                CHECK.due("CLOCK", x.host(0, 9), ticks);
                CHECK.due("COMPARE", x.host(0, 10), unsigned(compare));
            }
        }
        clockIsRead();
        // It is so as it is: a COMPARE that is moved on makes it 0 again.
        ReplayHosts x = new Asm().devices().addi(2, 0, 1).sw(2, 1, Asm.COMPARE).csr(2, 3, Asm.PENDING, 0).sw(1, 1, Asm.COMPARE)
            .csr(2, 4, Asm.PENDING, 0).booted(2, 4, 4);
        x.tick();
        x.run(0, 6);
        register("PENDING", x, 3, 0x80);
        register("PENDING no more", x, 4, 0);
    }

    private static void clockIsRead() {
        ReplayHosts x = new Asm().devices().lw(2, 1, Asm.CLOCK).jal(0, -4).booted(2, 4, 4);
        x.run(0, 1);
        for (int ticks = 0; ticks < 300; ticks += 100) {
            x.run(0, 2);
            register("CLOCK", x, 2, ticks);
            for (int i = 0; i < 100; i++) {
                CHECK.yes("tick", x.tick());
            }
        }
        x.run(0, 2);
        register("CLOCK", x, 2, 300);
    }

    /** "bit 11: a key or a packet waits, or the DISK is DONE": each alone, and none of them. */
    private static void pendingFromOutside() {
        Asm asm = new Asm().devices().lw(2, 1, Asm.KEY).addi(3, 0, 2).sw(3, 1, Asm.DISK).sw(0, 1, Asm.DISK).addi(4, 0, 0x200).sw(4, 1, Asm.RECEIVE);
        ReplayHosts x = asm.booted(2, 4, 4);
        CHECK.due("none", x.host(0, 71), 0);
        x.key(1);
        x.key(2);
        CHECK.due("two keys", x.host(0, 71), 0x800);
        x.run(0, 2);
        CHECK.due("a key yet", x.host(0, 71), 0x800);
        x = asm.booted(2, 4, 4);
        x.key(1);
        x.run(0, 2);
        CHECK.due("no key any more", x.host(0, 71), 0);
        x.run(0, 2);
        CHECK.due("BUSY", x.host(0, 11), BUSY);
        CHECK.due("BUSY isn't DONE", x.host(0, 71), 0);
        x.disk();
        CHECK.due("DONE", x.host(0, 71), 0x800);
        x.run(0, 1);
        CHECK.due("IDLE", x.host(0, 71), 0);
        x.packet(1, 0, 0, 0, 0);
        x.packet(1, 0, 0, 0, 0);
        CHECK.due("packets", x.host(0, 71), 0x800);
        x.run(0, 2);
        CHECK.due("a packet yet", x.host(0, 71), 0x800);
    }

    /** Promise 5: "the lowest byte of b"; KEY: "the oldest key that waits, which goes; -1 without one". */
    private static void keys() {
        int[] given = {0, 1, 127, 128, 255, 256, 257, -1, -256, MIN, MAX};
        ReplayHosts x = new Asm().devices().lw(2, 1, Asm.KEY).jal(0, -4).booted(2, 4, 4);
        x.run(0, 1);
        for (int b : given) {
            CHECK.yes("key(" + b + ")", x.key(b));
        }
        for (int b : given) {
            x.run(0, 2);
            register("key(" + b + ")", x, 2, b & 255);
        }
        x.run(0, 2);
        register("none", x, 2, -1);
        CHECK.due("none", x.host(0, 12), 0);
    }

    /** 16 keys wait at most; their places are used again. */
    private static void keysGoRound() {
        ReplayHosts x = new Asm().devices().lw(2, 1, Asm.KEY).jal(0, -4).booted(2, 4, 4);
        x.run(0, 1);
        int next = 0;
        int read = 0;
        for (int round = 0; round < 6; round++) {
            while (x.host(0, 12) < 16) {
                CHECK.yes("key " + next, x.key(next));
                next++;
            }
            CHECK.no("16 wait", x.key(99));
            CHECK.due("16 wait", x.host(0, 12), 16);
            for (int i = 0; i < 5; i++) {
                x.run(0, 2);
                register("in order", x, 2, read);
                read++;
            }
        }
        for (; read < next; read++) {
            x.run(0, 2);
            register("in order", x, 2, read);
        }
        x.run(0, 2);
        register("none: the refused ones didn't come", x, 2, -1);
    }

    /** "CONSOLE: written: the lowest byte is put out". */
    private static void consoleBytes() {
        int[] given = {0, 255, 256, -1, MIN, MAX, 0x1234567F, 128};
        Asm asm = new Asm().devices();
        for (int v : given) {
            asm.li(2, v).sw(2, 1, Asm.CONSOLE);
        }
        CHECK.outside("the lowest bytes", ran(asm), 0, 255, 0, 255, 0, 255, 0x7F, 128);
    }

    private static Asm started(int block, int address, int kind) {
        return new Asm().devices().li(2, block).sw(2, 1, Asm.BLOCK).li(3, address).sw(3, 1, Asm.ADDRESS).li(4, kind).sw(4, 1, Asm.DISK);
    }

    private static void starts(String what, Asm asm, int pages, boolean does) {
        ReplayHosts x = ran(asm, pages);
        CHECK.due(what + ": DISK", x.host(0, 11), does ? BUSY : IDLE);
        CHECK.due(what + ": outputs", x.host(0, 4), does ? 1 : 0);
        CHECK.due(what + ": at the shared disk", x.disk() ? 1 : 0, does ? 1 : 0);
        CHECK.due(what + ": then", x.host(0, 11), does ? DONE : IDLE);
    }

    /** "BLOCK is 0 .. 7". */
    private static void diskBlocks() {
        for (int kind = 1; kind < 3; kind++) {
            for (int block = 0; block < 8; block++) {
                starts("block " + block, started(block, 0, kind), 4, true);
            }
            for (int block : new int[] {8, 9, -1, -8, 256, MIN, MAX}) {
                starts("block " + block, started(block, 0, kind), 4, false);
            }
        }
        for (int block = 0; block < 8; block++) {
            ReplayHosts x = ran(started(block, 0, 2));
            x.disk();
            for (int other = 0; other < 8; other++) {
                CHECK.due("block " + block + " is written, not " + other, x.block(other, 0), other == block ? 0xB7 : 0);
                CHECK.due("block " + block + ", byte 63", x.block(other, 63), 0);
            }
        }
    }

    /** "the 64 bytes from ADDRESS on are all in MEMORY". */
    private static void diskAddresses() {
        for (int pages : new int[] {4, 5, 16}) {
            int end = 256 * pages;
            for (int kind = 1; kind < 3; kind++) {
                for (int address : new int[] {0, 1, 255, end - 65, end - 64}) {
                    starts("address " + address, started(0, address, kind), pages, true);
                }
                for (int address : new int[] {end - 63, end - 1, end, 65536, -1, -63, -64, MIN, MAX, MAX - 63}) {
                    starts("address " + address, started(0, address, kind), pages, false);
                }
            }
            // The last 64 bytes are written to a block, and read from it.
            ReplayHosts x = new ReplayHosts(2, pages, 1);
            started(5, end - 64, 2).li(5, end).sw(0, 5, -4).sw(0, 5, -64).li(4, 1).lw(6, 1, Asm.DISK).branch(0, 6, 4, -4).sw(4, 1, Asm.DISK).into(x);
            x.put(end - 64, 0x11L);
            x.put(end - 8, 0x7700000000000000L);
            x.boot();
            x.run(0, 40);
            x.disk();
            CHECK.due("the first byte", x.block(5, 0), 0x11);
            CHECK.due("the last byte", x.block(5, 63), 0x77);
            x.run(0, 3);
            CHECK.due("to be read", x.memory(0, end - 1), 0);
            CHECK.yes("read", x.disk());
            CHECK.due("the first byte", x.memory(0, end - 64), 0x11);
            CHECK.due("the last byte", x.memory(0, end - 1), 0x77);
        }
    }

    /** "written: 1, 2 if it is IDLE or DONE ..: it is BUSY; 0, if it is DONE: IDLE; else nothing". */
    private static void diskWrittenInEachState() {
        for (int v : new int[] {0, 1, 2, 3, 4, -1, 256, 257, 0x10001, MIN, MIN + 1, MAX}) {
            boolean starts = v == 1 || v == 2;
            for (int state = IDLE; state <= DONE; state++) {
                // IDLE at first; BUSY behind a 2; DONE behind its operation.
                Asm asm = new Asm().devices().addi(2, 0, 0x200).sw(2, 1, Asm.ADDRESS).addi(3, 0, 2).li(4, v);
                asm.sw(state == IDLE ? 0 : 3, 1, Asm.DISK).sw(4, 1, Asm.DISK).lw(5, 1, Asm.DISK);
                ReplayHosts x = asm.booted(2, 4, 4);
                x.run(0, 7);
                if (state == DONE) {
                    CHECK.yes("disk", x.disk());
                }
                CHECK.due("state", x.host(0, 11), state);
                int outputs = (int) x.host(0, 4);
                x.run(0, 2);
                String what = v + " to DISK in state " + state;
                int then = starts ? BUSY : v == 0 && state == DONE ? IDLE : state;
                CHECK.due(what, x.host(0, 11), then);
                register(what, x, 5, then);
                CHECK.due(what + ": outputs", x.host(0, 4), outputs + (starts && state != BUSY ? 1 : 0));
            }
        }
    }

    /** "else nothing": one that is DONE stays so, if BLOCK or ADDRESS is not such. */
    private static void diskRefusedWhenDone() {
        for (int[] wrong : new int[][] {{8, 0}, {-1, 0}, {0, 961}, {0, -1}}) {
            Asm asm = new Asm().devices().addi(4, 0, 2).sw(4, 1, Asm.DISK).li(2, wrong[0]).sw(2, 1, Asm.BLOCK).li(3, wrong[1]).sw(3, 1, Asm.ADDRESS);
            ReplayHosts x = asm.sw(4, 1, Asm.DISK).booted(2, 4, 4);
            x.run(0, 3);
            x.disk();
            x.run(0, 7);
            CHECK.due("DONE yet", x.host(0, 11), DONE);
            CHECK.due("one output", x.host(0, 4), 1);
            CHECK.no("none waits", x.disk());
        }
    }

    /** "(its kind, block, address and bytes stay the DISK's)", "these bytes as they are now". */
    private static void operationStaysAsItWas() {
        // Behind it: other bytes, another BLOCK and ADDRESS, and 1 or 2 again, which is nothing to a BUSY one.
        for (int again = 1; again < 3; again++) {
            Asm asm = new Asm().devices().addi(5, 0, 0x66).sw(5, 0, 0x200).addi(2, 0, 3).sw(2, 1, Asm.BLOCK).addi(3, 0, 0x200).sw(3, 1, Asm.ADDRESS);
            asm.addi(4, 0, 2).sw(4, 1, Asm.DISK).sw(0, 0, 0x200).sw(0, 1, Asm.BLOCK).sw(0, 1, Asm.ADDRESS).addi(4, 0, again).sw(4, 1, Asm.DISK).jal(0, 0);
            ReplayHosts x = asm.booted(2, 4, 4);
            x.run(0, 50);
            CHECK.yes("disk", x.disk());
            CHECK.due("block 3 has the bytes of then", x.block(3, 0), 0x66);
            CHECK.due("block 0 has none", x.block(0, 0), 0);
            CHECK.due("a write brings nothing", x.memory(0, 0x200), 0);
            CHECK.no("none waits", x.disk());
        }
    }

    /** "of an operation to read the 64 bytes at the ADDRESS that there was when it was put out become those that come". */
    private static void operationReads() {
        for (int address : new int[] {0x1C0, 0x1C1, 0x1F0, 0x240, 960}) {
            Asm asm = new Asm().devices().addi(2, 0, 0x140).sw(2, 1, Asm.ADDRESS).addi(4, 0, 2).sw(4, 1, Asm.DISK).lw(6, 1, Asm.DISK).branch(1, 6, 4, -4);
            asm.addi(3, 0, address).sw(3, 1, Asm.ADDRESS).addi(4, 0, 1).sw(4, 1, Asm.DISK).sw(0, 1, Asm.ADDRESS).sw(4, 1, Asm.BLOCK).jal(0, 0);
            ReplayHosts x = new ReplayHosts(2, 4, 4);
            asm.into(x);
            for (int i = 0; i < 8; i++) {
                x.put(0x140 + 8 * i, 0x0101010101010101L * (i + 1));
            }
            x.boot();
            x.run(0, 20);
            CHECK.yes("written", x.disk());
            x.run(0, 20);
            int before = x.memory(0, address - 1);
            int behind = x.memory(0, address + 64);
            CHECK.yes("read", x.disk());
            for (int i = 0; i < 64; i++) {
                CHECK.due("read to " + address + ", byte " + i, x.memory(0, address + i), i / 8 + 1);
            }
            CHECK.due("ahead of them", x.memory(0, address - 1), before);
            CHECK.due("behind them", x.memory(0, address + 64), behind);
            CHECK.due("not to the ADDRESS of now", x.memory(0, 0), 0xB7);
        }
    }

    private static void sends(int length, int address, int pages, boolean does) {
        String what = "LENGTH " + length + ", SEND " + address + ", pages " + pages;
        ReplayHosts x = ran(new Asm().devices().li(2, length).sw(2, 1, Asm.LENGTH).li(3, address).sw(3, 1, Asm.SEND), pages);
        CHECK.due(what + ": outputs", x.host(0, 4), does ? 1 : 0);
        CHECK.due(what + ": out(0)", x.out(0), does ? 256 : -1);
        CHECK.due(what + ": out(1)", x.out(1), does ? length : -1);
        if (does) {
            CHECK.yes(what + ": the last byte", x.out(1 + length) >= 0);
            CHECK.due(what + ": behind it", x.out(2 + length), -1);
        }
    }

    /** "if LENGTH is 1 .. 32". */
    private static void sendLengths() {
        for (int length : new int[] {1, 2, 31, 32}) {
            sends(length, 0, 4, true);
        }
        for (int length : new int[] {0, -1, 33, 64, 256 + 1, MIN, MIN + 1, MAX}) {
            sends(length, 0, 4, false);
        }
    }

    /** "so many bytes from the address that is written on are all in MEMORY". */
    private static void sendAddresses() {
        for (int pages : new int[] {4, 16}) {
            int end = 256 * pages;
            for (int length : new int[] {1, 3, 32}) {
                for (int address : new int[] {0, 1, end - length - 1, end - length}) {
                    sends(length, address, pages, true);
                }
                for (int address : new int[] {end - length + 1, end, 65536, -1, -length, MIN, MAX}) {
                    sends(length, address, pages, false);
                }
            }
        }
    }

    /** What is put out is as it was then: bytes that are written behind it don't come to the OUTSIDE. */
    private static void sentAsItIsNow() {
        Asm asm = new Asm().devices().addi(2, 0, 2).sw(2, 1, Asm.LENGTH).addi(3, 0, 0x102).sw(3, 0, 0x200).addi(4, 0, 0x200).sw(4, 1, Asm.SEND);
        ReplayHosts x = Programs.paired(asm.sw(0, 0, 0x200).sw(0, 1, Asm.LENGTH).jal(0, 0), 2, 4);
        x.run(0, 50);
        CHECK.due("kept", x.host(0, 5), 1);
        x.deliver();
        x.run(1, 50);
        x.suspect(1);
        CHECK.outside("as it was", x, 256, 2, 2, 1);
    }

    private static void receives(int n, int address, int pages, boolean does) {
        String what = "a packet of " + n + " to " + address + ", pages " + pages;
        ReplayHosts x = new Asm().devices().li(2, address).sw(2, 1, Asm.RECEIVE).lw(3, 1, Asm.RECEIVE).booted(2, pages, 4);
        CHECK.yes(what, x.packet(n, -1, -1, -1, -1));
        x.packet(7, 0, 0, 0, 0);
        x.run(0, 5);
        CHECK.due(what + ": it goes, or stays", x.host(0, 13), does ? 1 : 2);
        register(what + ": the oldest one's bytes", x, 3, does ? 7 : n);
        CHECK.due(what + ": the last byte of MEMORY", x.memory(0, 256 * pages - 1), does && address + n == 256 * pages ? 255 : 0);
        for (int i = 0; does && i < n; i++) {
            CHECK.due(what + ", byte " + i, x.memory(0, address + i), 255);
        }
    }

    /** "if there is one, and the address that is written has so many bytes of MEMORY from it on". */
    private static void receiveAddresses() {
        for (int pages : new int[] {4, 16}) {
            int end = 256 * pages;
            for (int n : new int[] {1, 2, 31, 32}) {
                for (int address : new int[] {0x100, 0x101, end - n - 1, end - n}) {
                    receives(n, address, pages, true);
                }
                for (int address : new int[] {end - n + 1, end, 65536, -1, -n, MIN, MAX}) {
                    receives(n, address, pages, false);
                }
            }
        }
    }

    /** "0 without one"; without one, what is written to RECEIVE is nothing. */
    private static void receiveWithoutAPacket() {
        ReplayHosts x = ran(new Asm().devices().addi(2, 0, 0x200).sw(2, 1, Asm.RECEIVE).lw(3, 1, Asm.RECEIVE));
        register("none", x, 3, 0);
        CHECK.due("none", x.host(0, 13), 0);
        x = new Asm().devices().addi(2, 0, 0x200).sw(2, 1, Asm.RECEIVE).sw(2, 1, Asm.RECEIVE).sw(0, 0, 0x200).sw(2, 1, Asm.RECEIVE).lw(3, 1, Asm.RECEIVE)
            .booted(2, 4, 4);
        x.packet(1, 5, 0, 0, 0);
        x.run(0, 7);
        CHECK.due("one that went comes not again", x.memory(0, 0x200), 0);
        register("none", x, 3, 0);
    }

    /** 4 packets wait at most; their places are used again. */
    private static void packetsGoRound() {
        ReplayHosts x = new Asm().devices().addi(2, 0, 0x200).lw(3, 1, Asm.RECEIVE).sw(2, 1, Asm.RECEIVE).jal(0, -8).booted(2, 4, 4);
        x.run(0, 2);
        int next = 1;
        int read = 1;
        for (int round = 0; round < 8; round++) {
            while (x.host(0, 13) < 4) {
                CHECK.yes("packet " + next, x.packet(1 + next % 32, 0x0101010101010101L * next, 0, 0, 0));
                next++;
            }
            CHECK.no("4 wait", x.packet(1, 99, 0, 0, 0));
            for (int i = 0; i < 3; i++) {
                x.run(0, 3);
                register("in order", x, 3, 1 + read % 32);
                CHECK.due("in order", x.memory(0, 0x200), read);
                read++;
            }
        }
        x.run(0, 3);
        CHECK.due("the last", x.memory(0, 0x200), read);
        CHECK.due("none: the refused ones didn't come", x.host(0, 13), 0);
        x.run(0, 3);
        register("none, in a place that was used", x, 3, 0);
    }

    /** Promise 6: "n bytes, 1 .. 32: those of a, b, c, d, the lowest first". */
    private static void packetBytes() {
        long[] v = {0x8877665544332211L, 0x00FFEEDDCCBBAA99L, 0x7F808182838485FEL, 0x0102030405060708L};
        for (int n = 1; n <= 32; n++) {
            ReplayHosts x = new Asm().devices().addi(2, 0, 0x200).lw(3, 1, Asm.RECEIVE).sw(2, 1, Asm.RECEIVE).booted(2, 4, 4);
            CHECK.yes("packet of " + n, x.packet(n, v[0], v[1], v[2], v[3]));
            x.run(0, 4);
            register("its length", x, 3, n);
            for (int i = 0; i < 40; i++) {
                int want = i < n ? (int) (v[i / 8] >>> 8 * (i % 8)) & 255 : 0;
                CHECK.due("packet of " + n + ", byte " + i, x.memory(0, 0x200 + i), want);
            }
        }
    }
}
