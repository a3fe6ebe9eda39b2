/** The bounds that promises 1 to 19 name: the last value that is taken and the first that is not, on both sides. */
public final class PromiseEdgesTest {
    private static final Check CHECK = new Check();
    private static final Twins TWINS = new Twins(CHECK);
    private static final int MIN = Integer.MIN_VALUE;
    private static final int MAX = Integer.MAX_VALUE;

    public static void main(String[] args) {
        promise1Hosts();
        promise1Pages();
        promise1Room();
        promise2PutEnds();
        promise2PutBytes();
        promise2PutBehindBoot();
        promise3Boot();
        promise4Steps();
        promise4StepsOfABackup();
        promise5SixteenKeys();
        promise6FourPackets();
        promise16Whats();
        promise16Unsigned();
        promise16OfWhomTheyAreTold();
        promise17Addresses();
        promise18Blocks();
        promise19Numbers();
        promise19PacketAtTheEnd();
        promise19ManyPackets();
        fiveHundredTwelveCalls();
        laterCallsEnd();
        CHECK.end();
    }

    private static long num(boolean b) {
        return b ? 1 : 0;
    }

    /** "2 to 4 hosts .. (what is less is the least, what is more the greatest)". */
    private static void promise1Hosts() {
        int[][] cases = {{MIN, 2}, {-1, 2}, {0, 2}, {1, 2}, {2, 2}, {3, 3}, {4, 4}, {5, 4}, {6, 4}, {MAX, 4}};
        for (int[] c : cases) {
            ReplayHosts x = new ReplayHosts(c[0], 4, 1);
            for (int h = 0; h < c[1]; h++) {
                CHECK.due(c[0] + " hosts: host " + h + " is SPARE", x.host(h, 0), 0);
                CHECK.due(c[0] + " hosts: host " + h + " runs none", x.run(h, 1), 0);
            }
            CHECK.due(c[0] + " hosts: no more", x.host(c[1], 0), -1);
            CHECK.due(c[0] + " hosts: no more", x.run(c[1], 1), -1);
            CHECK.yes(c[0] + " hosts: the last one", x.crash(c[1] - 1));
            CHECK.no(c[0] + " hosts: no more", x.crash(c[1]));
        }
    }

    /** "guests of 4 to 16 pages". */
    private static void promise1Pages() {
        int[][] cases = {{MIN, 4}, {-1, 4}, {0, 4}, {3, 4}, {4, 4}, {5, 5}, {15, 15}, {16, 16}, {17, 16}, {MAX, 16}};
        for (int[] c : cases) {
            ReplayHosts x = new ReplayHosts(2, c[0], 1);
            int end = 256 * c[1];
            CHECK.yes(c[0] + " pages: the last bytes", x.put(end - 8, 0x9900000000000000L));
            CHECK.no(c[0] + " pages: beyond", x.put(end - 7, -1));
            CHECK.yes("boot", x.boot());
            CHECK.due(c[0] + " pages: the last byte", x.memory(0, end - 1), 0x99);
            CHECK.due(c[0] + " pages: an image of 0s", x.memory(0, end - 9), 0);
            CHECK.due(c[0] + " pages: beyond", x.memory(0, end), -1);
            CHECK.yes("protect", x.protect(1));
            CHECK.due(c[0] + " pages are to be sent", x.host(1, 8), c[1]);
            for (int page = 0; page < c[1]; page++) {
                CHECK.due(c[0] + " pages: transfer", x.transfer(), page);
            }
            CHECK.due(c[0] + " pages: no more", x.transfer(), 64);
            CHECK.due(c[0] + " pages: the last byte came", x.memory(1, end - 1), 0x99);
        }
    }

    /** "a room of 1 to 32 entries". */
    private static void promise1Room() {
        int[][] cases = {{MIN, 1}, {-1, 1}, {0, 1}, {1, 1}, {2, 2}, {31, 31}, {32, 32}, {33, 32}, {MAX, 32}};
        for (int[] c : cases) {
            ReplayHosts x = Programs.paired(Programs.counting(), 2, c[0]);
            for (int i = 0; i < c[1]; i++) {
                CHECK.yes("room " + c[0] + ": tick " + i, x.tick());
                CHECK.due("room " + c[0] + ": unacknowledged", x.host(0, 6), i + 1);
            }
            CHECK.no("room " + c[0] + ": no more", x.tick());
            x = Programs.paired(Programs.counting(), 2, c[0]);
            CHECK.due("room " + c[0] + ": outputs, then STALLED", x.run(0, 2000), 2 + 3 * c[1]);
            CHECK.due("room " + c[0] + ": outputs", x.host(0, 4), c[1]);
        }
    }

    /** "false, and none, if one is beyond MEMORY". */
    private static void promise2PutEnds() {
        for (int pages : new int[] {4, 5, 16}) {
            int end = 256 * pages;
            ReplayHosts x = new ReplayHosts(2, pages, 1);
            for (int address : new int[] {-1, -7, -8, -9, end - 7, end - 4, end - 1, end, end + 1, 65536, MIN, MIN + 7, MAX, MAX - 7, MAX - 8}) {
                CHECK.no("put at " + address, x.put(address, -1));
            }
            x.boot();
            for (int i = 0; i < 8; i++) {
                CHECK.due("none at the beginning", x.memory(0, i), 0);
                CHECK.due("none at the end", x.memory(0, end - 1 - i), 0);
            }
            x = new ReplayHosts(2, pages, 1);
            CHECK.yes("put at 0", x.put(0, -1));
            CHECK.yes("put at the end", x.put(end - 8, -1));
            x.boot();
            for (int i = 0; i < 9; i++) {
                CHECK.due("eight at the beginning", x.memory(0, i), i < 8 ? 255 : 0);
                CHECK.due("eight at the end", x.memory(0, end - 1 - i), i < 8 ? 255 : 0);
            }
        }
    }

    /** "Eight bytes of the image become those of v, the lowest first". */
    private static void promise2PutBytes() {
        for (long v : new long[] {0, 1, -1, Long.MIN_VALUE, Long.MAX_VALUE, 0x8877665544332211L, 0x00000001FFFFFFFFL}) {
            ReplayHosts x = new ReplayHosts(2, 4, 1);
            x.put(16, -1);
            x.put(19, v);
            x.boot();
            for (int i = 0; i < 8; i++) {
                CHECK.due("byte " + i + " of " + v, x.memory(0, 19 + i), v >>> 8 * i & 255);
            }
            CHECK.due("ahead", x.memory(0, 18), 255);
            CHECK.due("behind", x.memory(0, 27), 0);
        }
    }

    private static void promise2PutBehindBoot() {
        ReplayHosts x = Programs.paired(Programs.counting(), 2, 4);
        CHECK.yes("the image's bytes can be put yet", x.put(0, -1));
        CHECK.no("none beyond", x.put(1017, -1));
        CHECK.due("no guest's", x.memory(0, 0), 0xB7);
        CHECK.due("no guest's", x.memory(1, 0), 0xB7);
        x.run(0, 8);
        CHECK.due("it runs as it did", x.host(0, 4), 2);
    }

    /** "If none was booted yet: host 0 (whatever it was) is LIVE .. Else false." */
    private static void promise3Boot() {
        for (int before = 0; before < 3; before++) {
            ReplayHosts x = new ReplayHosts(3, 4, 4);
            Programs.counting().into(x);
            x.crash(2);
            if (before > 0) {
                CHECK.yes("crash", x.crash(0));
            }
            if (before > 1) {
                CHECK.yes("repair", x.repair(0));
            }
            CHECK.yes("boot", x.boot());
            CHECK.due("LIVE", x.host(0, 0), 1);
            CHECK.due("host 1 is as it was", x.host(1, 0), 0);
            CHECK.due("host 2 is as it was", x.host(2, 0), 6);
            CHECK.due("without a BACKUP", x.host(0, 14), 0);
            CHECK.due("it runs", x.run(0, 6), 6);
            CHECK.outside("what it puts out leaves at once", x, 1, 2);
            CHECK.no("boot again", x.boot());
            CHECK.due("as it was", x.host(0, 1), 6);
            x.crash(0);
            CHECK.no("boot of a DEAD one", x.boot());
            CHECK.due("as it was", x.host(0, 0), 6);
            x.repair(0);
            CHECK.no("boot of a SPARE one", x.boot());
            CHECK.due("as it was", x.host(0, 0), 0);
        }
    }

    /** "at most so many steps (0 .. 2000): how many. - 1: there is no such host, or number". */
    private static void promise4Steps() {
        ReplayHosts x = Programs.counting().booted(2, 4, 4);
        CHECK.due("0", x.run(0, 0), 0);
        CHECK.due("no step", x.host(0, 1), 0);
        CHECK.due("1", x.run(0, 1), 1);
        CHECK.due("1999", x.run(0, 1999), 1999);
        CHECK.due("2000", x.run(0, 2000), 2000);
        CHECK.due("all of them", x.host(0, 1), 4000);
        for (int steps : new int[] {-1, -2, 2001, 2002, MIN, MAX}) {
            CHECK.due("run(0, " + steps + ")", x.run(0, steps), -1);
            CHECK.due("run(1, " + steps + ") of a SPARE one", x.run(1, steps), -1);
            CHECK.due("run(2, " + steps + ")", x.run(2, steps), -1);
            TWINS.refused("run(0, " + steps + ")", () -> Programs.counting().booted(2, 4, 4), y -> y.run(0, steps), -1);
        }
        CHECK.due("none of them", x.host(0, 1), 4000);
    }

    private static void promise4StepsOfABackup() {
        ReplayHosts x = Programs.paired(Programs.counting(), 2, 32);
        x.run(0, 31);
        for (int i = 0; i < 10; i++) {
            CHECK.yes("deliver", x.deliver());
            CHECK.yes("ack", x.ack());
        }
        CHECK.due("no such number", x.run(1, 2001), -1);
        CHECK.due("no such number", x.run(1, -1), -1);
        CHECK.due("nothing is taken", x.host(1, 7), 10);
        CHECK.due("up to the last entry", x.run(1, 2000), 30);
    }

    /** "if 16 keys wait". */
    private static void promise5SixteenKeys() {
        ReplayHosts x = Programs.echo().booted(2, 4, 4);
        for (int i = 0; i < 16; i++) {
            CHECK.yes("key " + i, x.key(65 + i));
            CHECK.due("wait", x.host(0, 12), i + 1);
        }
        CHECK.no("the 17th", x.key(99));
        CHECK.yes("a packet all the same", x.packet(1, 0, 0, 0, 0));
        CHECK.yes("a tick all the same", x.tick());
        CHECK.due("16 wait", x.host(0, 12), 16);
        x.run(0, 2);
        CHECK.due("15 wait", x.host(0, 12), 15);
        CHECK.yes("one more", x.key(66));
        CHECK.no("16 wait", x.key(67));
        TWINS.refused("the 17th key", PromiseEdgesTest::sixteenKeys, y -> num(y.key(99)), 0);
    }

    private static ReplayHosts sixteenKeys() {
        ReplayHosts x = Programs.paired(Programs.echo(), 2, 20);
        for (int i = 0; i < 16; i++) {
            x.key(65 + i);
        }
        return x;
    }

    /** "false, too, if n is not such, or 4 wait". */
    private static void promise6FourPackets() {
        ReplayHosts x = Programs.worker().booted(2, 4, 4);
        for (int i = 0; i < 4; i++) {
            CHECK.yes("packet " + i, x.packet(32 - 31 * (i % 2), i, 0, 0, 0));
            CHECK.due("wait", x.host(0, 13), i + 1);
        }
        CHECK.no("the 5th", x.packet(1, 99, 0, 0, 0));
        CHECK.no("n 0", x.packet(0, 99, 0, 0, 0));
        CHECK.yes("a key all the same", x.key(1));
        CHECK.due("4 wait", x.host(0, 13), 4);
        x.run(0, 11);
        CHECK.due("3 wait", x.host(0, 13), 3);
        for (int n : new int[] {0, -1, 33, 34, 64, MIN, MAX}) {
            CHECK.no("a packet of " + n, x.packet(n, 1, 2, 3, 4));
        }
        CHECK.due("3 wait", x.host(0, 13), 3);
        CHECK.yes("one more", x.packet(32, 0, 0, 0, 0));
        CHECK.no("4 wait", x.packet(1, 0, 0, 0, 0));
        TWINS.refused("the 5th packet", PromiseEdgesTest::fourPackets, y -> num(y.packet(1, 99, 0, 0, 0)), 0);
    }

    private static ReplayHosts fourPackets() {
        ReplayHosts x = Programs.paired(Programs.worker(), 2, 20);
        for (int i = 0; i < 4; i++) {
            x.packet(8 * i + 1, i, i, i, i);
        }
        return x;
    }

    /** "- 1 without such a host; - 2 for another what (15 .. 31, too, of any host)". */
    private static void promise16Whats() {
        ReplayHosts x = Programs.paired(Programs.counting(), 4, 4);
        x.crash(3);
        int[] none = {MIN, -2, -1, 15, 16, 23, 30, 31, 72, 73, 96, 128, MAX};
        for (int h = 0; h < 4; h++) {
            for (int what : none) {
                CHECK.due("host(" + h + ", " + what + ")", x.host(h, what), -2);
            }
            for (int what : new int[] {0, 1, 14, 32, 63, 64, 71}) {
                CHECK.yes("host(" + h + ", " + what + ")", x.host(h, what) >= 0);
            }
        }
        for (int h : new int[] {MIN, -1, 4, 5, MAX}) {
            for (int what : new int[] {0, 1, 14, 32, 71}) {
                CHECK.due("host(" + h + ", " + what + ")", x.host(h, what), -1);
            }
        }
    }

    /** "PLACE (UNSIGNED) .. COMPARE (UNSIGNED) .. register k (UNSIGNED), 64 .. 71 (UNSIGNED)". */
    private static void promise16Unsigned() {
        Asm asm = new Asm().devices().addi(2, 0, -1).sw(2, 1, Asm.COMPARE);
        int[] control = {Asm.STATUS, Asm.ENABLED, Asm.VECTOR, Asm.SCRATCH, Asm.BACK, Asm.CAUSE, Asm.VALUE};
        long[] has = {0x88, 0x880, 0xFFFFFFFCL, 0xFFFFFFFFL, 0xFFFFFFFCL, 0xFFFFFFFFL, 0xFFFFFFFFL};
        for (int which : control) {
            asm.csr(1, 0, which, 2);
        }
        for (int k = 2; k < 32; k++) {
            asm.addi(k, 0, -k);
        }
        asm.jalr(0, 4, 0);
        ReplayHosts x = asm.booted(2, 4, 4);
        x.run(0, asm.words().length);
        // What 13 tells isn't what 32 does.
        x.packet(1, 1, 0, 0, 0);
        CHECK.due("packets", x.host(0, 13), 1);
        CHECK.due("PLACE", x.host(0, 2), 0xFFFFFFFCL);
        CHECK.due("COMPARE", x.host(0, 10), 0xFFFFFFFFL);
        CHECK.due("register 0", x.host(0, 32), 0);
        CHECK.due("register 1", x.host(0, 33), 65536);
        for (int k = 2; k < 32; k++) {
            CHECK.due("register " + k, x.host(0, 32 + k), 0x100000000L - k);
        }
        for (int i = 0; i < control.length; i++) {
            CHECK.due("control register " + control[i], x.host(0, 64 + i), has[i]);
        }
        CHECK.due("PENDING", x.host(0, 71), 0x800);
    }

    /** "Those from 1 on are 0 of one that is SPARE, RECEIVING (but 8), HALTED or DEAD; 6, 7, 8 and 14, too, of one that is none of those told with them." */
    private static void promise16OfWhomTheyAreTold() {
        ReplayHosts x = Programs.paired(Programs.worker(), 4, 8);
        x.tick();
        x.key(1);
        x.run(0, 20);
        x.deliver();
        told("LIVE with a BACKUP", x, 0, 5, 0, 0, 1);
        told("BACKUP", x, 1, 0, 1, 0, 1);
        none("SPARE", x, 2, 0);
        x.suspect(1);
        told("TAKING", x, 1, 0, 1, 0, 1);
        told("the former LIVE one", x, 0, 0, 0, 0, 1);
        x.suspect(0);
        none("HALTED", x, 0, 0);
        x.run(1, 30);
        told("LIVE without a BACKUP", x, 1, 0, 0, 0, 0);
        x.protect(2);
        x.transfer();
        none("RECEIVING", x, 2, 3);
        told("LIVE, one is RECEIVING", x, 1, 0, 0, 0, 0);
        x.crash(2);
        none("DEAD", x, 2, 0);
    }

    private static void told(String what, ReplayHosts x, int host, int six, int seven, int eight, int fourteen) {
        CHECK.due(what + ", 6", x.host(host, 6), six);
        CHECK.due(what + ", 7", x.host(host, 7), seven);
        CHECK.due(what + ", 8", x.host(host, 8), eight);
        CHECK.due(what + ", 14", x.host(host, 14), fourteen);
    }

    private static void none(String what, ReplayHosts x, int host, int pages) {
        for (int k = 1; k < 72; k++) {
            if (k < 15 || k > 31) {
                CHECK.due(what + ", " + k, x.host(host, k), k == 8 ? pages : 0);
            }
        }
    }

    /** "A byte of a host's MEMORY (LIVE, BACKUP, TAKING); NONE without it". */
    private static void promise17Addresses() {
        for (int pages : new int[] {4, 16}) {
            int end = 256 * pages;
            ReplayHosts x = new ReplayHosts(3, pages, 4);
            x.put(0, 0x80);
            x.put(end - 8, 0xFF00000000000000L);
            CHECK.due("ahead of boot", x.memory(0, 0), -1);
            x.boot();
            Programs.pair(x, 1);
            for (int h = 0; h < 2; h++) {
                CHECK.due("the first", x.memory(h, 0), 0x80);
                CHECK.due("the second", x.memory(h, 1), 0);
                CHECK.due("the last", x.memory(h, end - 1), 255);
                for (int address : new int[] {-1, end, end + 1, 65536, MIN, MAX}) {
                    CHECK.due("memory(" + h + ", " + address + ")", x.memory(h, address), -1);
                }
            }
            CHECK.due("SPARE", x.memory(2, 0), -1);
            CHECK.due("none such", x.memory(3, 0), -1);
            CHECK.due("none such", x.memory(-1, 0), -1);
        }
    }

    /** "Byte k of a block of the shared disk; the MARK with block 8 and any k; NONE if there is none such". */
    private static void promise18Blocks() {
        ReplayHosts x = Programs.diskOnce(2).booted(2, 4, 4);
        for (int block = 0; block < 8; block++) {
            for (int k : new int[] {0, 1, 62, 63}) {
                CHECK.due("all 0: block(" + block + ", " + k + ")", x.block(block, k), 0);
            }
            for (int k : new int[] {MIN, -1, 64, 65, MAX}) {
                CHECK.due("block(" + block + ", " + k + ")", x.block(block, k), -1);
            }
        }
        for (int block : new int[] {MIN, -8, -1, 9, 10, 16, MAX}) {
            for (int k : new int[] {MIN, -1, 0, 63, 64, MAX}) {
                CHECK.due("block(" + block + ", " + k + ")", x.block(block, k), -1);
            }
        }
        for (int mark = 0; mark < 3; mark++) {
            for (int k : new int[] {MIN, -1, 0, 63, 64, MAX}) {
                CHECK.due("the MARK, block(8, " + k + ")", x.block(8, k), mark);
            }
            Programs.pair(x, 1);
            x.suspect(0);
            x.suspect(1);
            x.repair(1);
        }
    }

    /** "Number i that came to the OUTSIDE, from the beginning on (the first 4096 are kept); NONE if there is none such". */
    private static void promise19Numbers() {
        ReplayHosts x = Programs.counting().booted(2, 4, 4);
        for (int i : new int[] {MIN, -1, 0, 1, 4095, 4096, MAX}) {
            CHECK.due("none yet: out(" + i + ")", x.out(i), -1);
        }
        for (int i = 0; i < 6; i++) {
            x.run(0, 2000);
        }
        CHECK.due("outputs", x.host(0, 4), 4000);
        x.run(0, 285);
        CHECK.due("outputs", x.host(0, 4), 4095);
        CHECK.due("out(4094)", x.out(4094), 4095 & 255);
        CHECK.due("out(4095)", x.out(4095), -1);
        x.run(0, 3);
        CHECK.due("the 4096th", x.out(4095), 4096 & 255);
        x.run(0, 300);
        CHECK.due("outputs go on", x.host(0, 4), 4196);
        CHECK.due("the first", x.out(0), 1);
        CHECK.due("the last that is kept", x.out(4095), 4096 & 255);
        for (int i : new int[] {MIN, -1, 4096, 4097, MAX}) {
            CHECK.due("out(" + i + ")", x.out(i), -1);
        }
    }

    /** Of a packet at the end of the 4096 numbers, those within are kept. */
    private static void promise19PacketAtTheEnd() {
        for (int before = 4060; before <= 4096; before += 6) {
            // Puts out so many 7s, then a packet of 32 bytes, all 9.
            Asm asm = new Asm().devices().addi(2, 0, 7).li(3, before).addi(4, 0, 32).sw(4, 1, Asm.LENGTH).addi(5, 0, 0x200);
            asm.sw(2, 1, Asm.CONSOLE).addi(3, 3, -1).branch(1, 3, 0, -8).sw(5, 1, Asm.SEND).jal(0, 0);
            ReplayHosts x = new ReplayHosts(2, 4, 4);
            asm.into(x);
            for (int i = 0; i < 4; i++) {
                x.put(0x200 + 8 * i, 0x0909090909090909L);
            }
            x.boot();
            for (int i = 0; i < 8; i++) {
                x.run(0, 2000);
            }
            CHECK.due("outputs", x.host(0, 4), before + 1);
            int[] due = {256, 32};
            for (int i = before - 1; i < before + 36; i++) {
                int k = i - before;
                int want = i >= 4096 || k >= 34 ? -1 : k < 0 ? 7 : k < 2 ? due[k] : 9;
                CHECK.due(before + " numbers, then a packet: out(" + i + ")", x.out(i), want);
            }
        }
    }

    private static void promise19ManyPackets() {
        Asm asm = new Asm().devices().addi(4, 0, 32).sw(4, 1, Asm.LENGTH).sw(0, 1, Asm.SEND).jal(0, -4);
        ReplayHosts x = asm.booted(2, 4, 4);
        x.run(0, 2000);
        CHECK.due("outputs", x.host(0, 4), 999);
        CHECK.due("the first packet", x.out(0), 256);
        CHECK.due("the 121st packet", x.out(34 * 120), 256);
        CHECK.due("its length", x.out(34 * 120 + 1), 32);
        CHECK.yes("the last that is kept", x.out(4095) >= 0);
        CHECK.due("no more", x.out(4096), -1);
    }

    /** "An object is used for at most 512 calls": all of them answer as due. */
    private static void fiveHundredTwelveCalls() {
        ReplayHosts x = new ReplayHosts(2, 4, 1);
        int calls = Programs.counting().into(x);
        x.boot();
        Programs.pair(x, 1);
        calls += 7;
        int left = 0;
        for (; calls + 4 <= 512; calls += 4) {
            CHECK.due("one output's steps", x.run(0, 3), 3);
            CHECK.yes("deliver", x.deliver());
            CHECK.yes("ack", x.ack());
            CHECK.due("out", x.out(left), left + 1 & 255);
            left++;
        }
        CHECK.yes("as far as that", left > 120);
        // As many entries as can come to a BACKUP that takes none.
        x = new ReplayHosts(2, 4, 32);
        calls = Programs.counting().into(x) + 7;
        x.boot();
        Programs.pair(x, 1);
        int came = 0;
        for (; calls + 66 <= 512; calls += 65) {
            x.run(0, 2000);
            for (int i = 0; i < 32; i++) {
                CHECK.yes("deliver", x.deliver());
                CHECK.yes("ack", x.ack());
                came++;
            }
        }
        CHECK.due("all came", x.host(1, 7), came);
        CHECK.due("it replays them all", x.run(1, 2000), 3 * came);
        CHECK.due("outputs", x.host(1, 4), came);
    }

    /** What calls behind the 512th answer is free, but they end, and throw nothing. */
    private static void laterCallsEnd() {
        ReplayHosts x = Programs.paired(Programs.worker(), 3, 32);
        for (int i = 0; i < 3000; i++) {
            x.tick();
            x.run(0, 7);
            x.deliver();
            x.ack();
            x.key(i);
            x.packet(32, i, i, i, i);
        }
        for (int i = 0; i < 3000; i++) {
            x.suspect(i % 3);
            x.crash((i + 1) % 3);
            x.repair((i + 1) % 3);
            x.protect((i + 1) % 3);
            for (int k = 0; k < 5; k++) {
                x.transfer();
            }
            x.run(i % 3, 7);
            x.run((i + 1) % 3, 7);
        }
        for (int i = 0; i < 300; i++) {
            x.disk();
        }
        CHECK.yes("it answers yet", x.host(0, 0) >= 0);
    }
}
