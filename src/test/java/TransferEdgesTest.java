/** The boundary cases that the document's sentences on protect(), transfer(), crash() and repair() name. */
public final class TransferEdgesTest {
    private static final Check CHECK = new Check();
    private static final Twins TWINS = new Twins(CHECK);

    private static final int SPARE = 0;
    private static final int LIVE = 1;
    private static final int BACKUP = 2;
    private static final int RECEIVING = 4;
    private static final int HALTED = 5;
    private static final int DEAD = 6;

    public static void main(String[] args) {
        protectOfEachState();
        protectWithoutJustOneLive();
        allPagesAreToBeSent();
        pagesAsTheyAreNow();
        eachByteOfAPage();
        writesThatMarkPages();
        whatMarksNoPage();
        eventsThatMarkPages();
        leastPageFirst();
        twiceAsManyPages();
        heldLooksAtNothing();
        heldStillHears();
        heldTillThen();
        sentIsCountedAnew();
        allElseComes();
        sleepComes();
        operationComes();
        crashOfEither();
        crashOfAThird();
        CHECK.end();
    }

    private static void state(String what, ReplayHosts x, int host, int want) {
        CHECK.due(what + ": host " + host + " is", x.host(host, 0), want);
    }

    private static void sent(ReplayHosts x, int... pages) {
        for (int page : pages) {
            CHECK.due("transfer()", x.transfer(), page);
        }
    }

    private static long num(boolean b) {
        return b ? 1 : 0;
    }

    /** "a SPARE host is RECEIVING": none that is LIVE, BACKUP, RECEIVING, HALTED or DEAD. */
    private static void protectOfEachState() {
        ReplayHosts x = Programs.counting().booted(4, 4, 4);
        x.crash(3);
        CHECK.no("LIVE", x.protect(0));
        CHECK.no("DEAD", x.protect(3));
        CHECK.due("none is RECEIVING", x.transfer(), -1);
        Programs.pair(x, 1);
        CHECK.no("BACKUP", x.protect(1));
        x.suspect(0);
        CHECK.no("a BACKUP that was left", x.protect(1));
        x.suspect(1);
        state("suspect", x, 1, HALTED);
        CHECK.no("HALTED", x.protect(1));
        x.repair(1);
        CHECK.yes("SPARE", x.protect(1));
        CHECK.no("RECEIVING", x.protect(1));
        CHECK.no("no other RECEIVING", x.protect(2));
        state("protect", x, 1, RECEIVING);
        state("protect", x, 2, SPARE);
    }

    /** "if there is just one LIVE host (of whatever kind), and that has no BACKUP". */
    private static void protectWithoutJustOneLive() {
        ReplayHosts x = new ReplayHosts(4, 4, 4);
        CHECK.no("none is LIVE", x.protect(1));
        x = Programs.paired(Programs.counting(), 4, 4);
        CHECK.no("it has a BACKUP", x.protect(2));
        x.suspect(1);
        CHECK.no("two LIVE ones, one of them without", x.protect(2));
        x.crash(0);
        CHECK.yes("just one", x.protect(2));
        x = Programs.paired(Programs.counting(), 4, 4);
        x.tick();
        x.deliver();
        x.suspect(1);
        CHECK.no("the former LIVE one and a TAKING one", x.protect(2));
        x.suspect(0);
        CHECK.no("a TAKING one", x.protect(2));
        x.run(1, 1);
        state("none left", x, 1, LIVE);
        CHECK.yes("just one", x.protect(2));
        TWINS.refused("protect without a LIVE one", () -> new ReplayHosts(4, 4, 4), y -> num(y.protect(1)), 0);
    }

    /** "all PAGES are to be sent": also those that were never written. */
    private static void allPagesAreToBeSent() {
        for (int pages = 4; pages <= 16; pages++) {
            ReplayHosts x = Programs.counting().booted(2, pages, 4);
            x.run(0, 10);
            x.protect(1);
            for (int page = 0; page < pages; page++) {
                CHECK.due("to be sent", x.host(1, 8), pages - page);
                CHECK.due("of the LIVE one", x.host(0, 8), 0);
                sent(x, page);
            }
            CHECK.due("to be sent", x.host(1, 8), 0);
            state("all else isn't there", x, 1, RECEIVING);
            sent(x, 64);
            state("all is there", x, 1, BACKUP);
            sent(x, -1);
        }
    }

    /** "comes to it as it is now". */
    private static void pagesAsTheyAreNow() {
        // Counts at 0x380, in page 3, for ever: three steps a round.
        Asm asm = new Asm().addi(5, 5, 1).sw(5, 0, 0x380).jal(0, -8);
        ReplayHosts x = asm.booted(2, 4, 4);
        x.protect(1);
        x.run(0, 3);
        sent(x, 0, 1, 2);
        x.run(0, 3);
        sent(x, 3);
        x.run(0, 1);
        sent(x, 64);
        CHECK.due("as it was when it was sent", x.memory(1, 0x380), 2);
        CHECK.due("as it is", x.memory(0, 0x380), 2);
        CHECK.due("the register of now", x.host(1, 37), 3);
        x = asm.booted(2, 4, 4);
        x.protect(1);
        sent(x, 0, 1, 2, 3);
        x.run(0, 3);
        sent(x, 3);
        x.run(0, 3);
        sent(x, 3, 64);
        CHECK.due("sent again", x.memory(1, 0x380), 2);
    }

    /** Pages are 256 bytes: the first and the last byte of each is in it. */
    private static void eachByteOfAPage() {
        for (int pages : new int[] {4, 16}) {
            for (int page = 1; page < pages; page++) {
                for (int at : new int[] {256 * page, 256 * page + 255}) {
                    ReplayHosts x = new Asm().li(2, at).store(0, 2, 2, 0).booted(2, pages, 4);
                    x.protect(1);
                    for (int i = 0; i < pages; i++) {
                        x.transfer();
                    }
                    x.run(0, 3);
                    CHECK.due("one page is to be sent", x.host(1, 8), 1);
                    sent(x, page, 64);
                    CHECK.due("it came", x.memory(1, at), at & 255);
                }
            }
        }
    }

    /** How many pages are to be sent behind a program's last step, when all were sent ahead of it. */
    private static ReplayHosts behindAll(Asm asm, int stepsBefore) {
        ReplayHosts x = asm.booted(2, 4, 4);
        x.packet(32, -1, -1, -1, -1);
        x.run(0, stepsBefore);
        x.protect(1);
        for (int i = 0; i < 4; i++) {
            x.transfer();
        }
        CHECK.due("none is to be sent", x.host(1, 8), 0);
        CHECK.due("one step", x.run(0, 1), 1);
        return x;
    }

    /** "a byte of a page that the LIVE guest writes (a step ..) makes it one that is to be sent". */
    private static void writesThatMarkPages() {
        for (int f = 0; f < 3; f++) {
            ReplayHosts x = behindAll(new Asm().li(2, 0x2FC).store(f, 0, 2, 0), 2);
            CHECK.due("the same bytes once more: written all the same", x.host(1, 8), 1);
            sent(x, 2, 64);
        }
        int[][] receives = {{0x1E0, 1, 1}, {0x1E1, 1, 2}, {0x1FF, 1, 2}, {0x200, 2, 2}, {0x3E0, 3, 3}};
        for (int[] c : receives) {
            ReplayHosts x = behindAll(new Asm().devices().addi(2, 0, c[0]).sw(2, 1, Asm.RECEIVE), 2);
            CHECK.due("a packet to " + c[0], x.host(1, 8), 1 + c[2] - c[1]);
            sent(x, c[1]);
            if (c[2] > c[1]) {
                sent(x, c[2]);
            }
            sent(x, 64);
            CHECK.due("its first byte", x.memory(1, c[0]), 255);
            CHECK.due("its last byte", x.memory(1, c[0] + 31), 255);
        }
    }

    /** Neither loads, DEVICES' words, outputs, TRAPS, nor a RECEIVE that brings nothing write a page. */
    private static void whatMarksNoPage() {
        Asm[] programs = {
            new Asm().devices().addi(2, 0, 0x200).lw(3, 2, 0),
            new Asm().devices().addi(2, 0, 0x200).sw(2, 1, Asm.ADDRESS),
            new Asm().devices().addi(2, 0, 2).sw(2, 1, Asm.DISK),
            new Asm().devices().addi(2, 0, 2).sw(2, 1, Asm.CONSOLE),
            new Asm().addi(2, 0, 0x200).addi(2, 2, 1).sw(2, 2, 0),
            new Asm().addi(2, 0, 0x400).addi(2, 2, 0).sw(2, 2, 0),
            new Asm().devices().addi(2, 0, 0x3E1).sw(2, 1, Asm.RECEIVE),
            new Asm().addi(2, 0, 1).addi(3, 0, 1).word(0),
        };
        for (int i = 0; i < programs.length; i++) {
            ReplayHosts x = behindAll(programs[i], 2);
            CHECK.due("program " + i, x.host(1, 8), 0);
            sent(x, 64);
        }
    }

    /** "(a step, an event)": DISK brings 64 bytes; of one that writes a block, and the others, none. */
    private static void eventsThatMarkPages() {
        int[][] cases = {{0x1C0, 1, 1}, {0x1C1, 1, 2}, {0x1FF, 1, 2}, {0x200, 2, 2}, {0x3C0, 3, 3}};
        for (int[] c : cases) {
            for (int kind = 1; kind < 3; kind++) {
                Asm asm = new Asm().devices().addi(2, 0, c[0]).sw(2, 1, Asm.ADDRESS).addi(3, 0, kind).sw(3, 1, Asm.DISK).jal(0, 0);
                ReplayHosts x = asm.booted(2, 4, 4);
                x.run(0, 5);
                x.protect(1);
                sent(x, 0, 1, 2, 3);
                x.key(1);
                x.packet(1, 1, 0, 0, 0);
                x.tick();
                CHECK.due("no page is written by these", x.host(1, 8), 0);
                CHECK.yes("disk", x.disk());
                CHECK.due("DISK to " + c[0] + ", kind " + kind, x.host(1, 8), kind == 1 ? 1 + c[2] - c[1] : 0);
                if (kind == 1) {
                    sent(x, c[1]);
                }
            }
        }
    }

    /** "the least page that is to be sent". */
    private static void leastPageFirst() {
        Asm asm = new Asm().sw(0, 0, 0x300).sw(0, 0, 0x100).sw(0, 0, 0x200).sw(0, 0, 0x80);
        ReplayHosts x = asm.booted(2, 4, 4);
        x.protect(1);
        sent(x, 0, 1, 2, 3);
        x.run(0, 1);
        x.run(0, 1);
        sent(x, 1);
        x.run(0, 1);
        sent(x, 2);
        x.run(0, 1);
        sent(x, 0, 3, 64);
    }

    /** Stores to page 0 at each second step. */
    private static Asm storing() {
        return new Asm().sw(5, 0, 0x80).jal(0, -4);
    }

    /** "When twice as many pages as there are were sent, the LIVE guest makes no steps (0 of run() ..)". */
    private static void twiceAsManyPages() {
        for (int pages : new int[] {4, 5, 16}) {
            ReplayHosts x = storing().booted(2, pages, 4);
            x.protect(1);
            for (int i = 0; i < 2 * pages; i++) {
                CHECK.due(i + " of " + pages + " pages were sent", x.run(0, 2), 2);
                CHECK.due("page 0 is written again and again", x.transfer(), 0);
            }
            CHECK.due("twice as many", x.run(0, 2), 0);
            CHECK.due("twice as many", x.run(0, 2000), 0);
            CHECK.due("COUNT", x.host(0, 1), 4 * pages);
            CHECK.due("no such number all the same", x.run(0, 2001), -1);
            for (int page = 1; page < pages; page++) {
                sent(x, page);
                CHECK.due("more than twice as many", x.run(0, 1), 0);
            }
            sent(x, 64);
            CHECK.due("till then", x.run(0, 2), 2);
        }
    }

    /** "nothing is looked at": one that is ASLEEP stays so, whatever is PENDING. */
    private static void heldLooksAtNothing() {
        // Stores, then sleeps, in each round.
        ReplayHosts x = new Asm().devices().li(2, 0x800).csr(1, 0, Asm.ENABLED, 2).sw(5, 0, 0x80).sleep().lw(6, 1, Asm.KEY).jal(0, -12).booted(2, 4, 4);
        x.protect(1);
        CHECK.due("up to its sleep", x.run(0, 100), 6);
        for (int i = 0; i < 7; i++) {
            sent(x, 0);
            x.key(i);
            CHECK.due("a round", x.run(0, 100), 4);
        }
        sent(x, 0);
        CHECK.due("ASLEEP", x.host(0, 3), 1);
        x.key(7);
        CHECK.due("PENDING", x.host(0, 71), 0x800);
        CHECK.due("no steps", x.run(0, 100), 0);
        CHECK.due("ASLEEP yet", x.host(0, 3), 1);
        sent(x, 1, 2, 3, 64);
        CHECK.due("ASLEEP came, too", x.host(1, 3), 1);
        CHECK.due("it wakes", x.run(0, 100), 4);
    }

    private static ReplayHosts held() {
        // A read of block 0 to 0x1F0 is under way.
        Asm asm = new Asm().devices().addi(2, 0, 0x1F0).sw(2, 1, Asm.ADDRESS).addi(3, 0, 1).sw(3, 1, Asm.DISK).sw(5, 0, 0x80).jal(0, -4);
        ReplayHosts x = asm.booted(3, 4, 4);
        x.run(0, 5);
        x.protect(1);
        for (int i = 0; i < 8; i++) {
            x.run(0, 2);
            x.transfer();
        }
        return x;
    }

    /** "events still come". */
    private static void heldStillHears() {
        TWINS.refused("run() of one that is held", TransferEdgesTest::held, y -> y.run(0, 2000), 0);
        ReplayHosts x = held();
        sent(x, 1, 2, 3);
        CHECK.yes("key", x.key(1));
        CHECK.yes("packet", x.packet(1, 1, 0, 0, 0));
        CHECK.yes("tick", x.tick());
        CHECK.due("no page", x.host(1, 8), 0);
        CHECK.yes("disk", x.disk());
        CHECK.due("pages 1 and 2", x.host(1, 8), 2);
        CHECK.due("no steps", x.run(0, 1), 0);
        sent(x, 1, 2, 64);
        for (int what : new int[] {9, 11, 12, 13}) {
            CHECK.due("what " + what + " came", x.host(1, what), what == 11 ? 2 : 1);
        }
        CHECK.due("it runs", x.run(0, 1), 1);
    }

    /** "till then": or till none is RECEIVING any more. */
    private static void heldTillThen() {
        ReplayHosts x = held();
        CHECK.due("held", x.run(0, 1), 0);
        x.crash(1);
        CHECK.due("none is RECEIVING", x.run(0, 1), 1);
        x = held();
        x.crash(2);
        CHECK.due("another's crash is nothing", x.run(0, 1), 0);
        x.repair(2);
        CHECK.due("nor is its repair", x.run(0, 1), 0);
    }

    /** Pages that were sent to one aren't counted for the next, and all are to be sent again. */
    private static void sentIsCountedAnew() {
        ReplayHosts x = held();
        x.crash(1);
        CHECK.yes("protect", x.protect(2));
        CHECK.due("all are to be sent", x.host(2, 8), 4);
        for (int i = 0; i < 8; i++) {
            CHECK.due("it runs", x.run(0, 2), 2);
            sent(x, 0);
        }
        CHECK.due("held", x.run(0, 2), 0);
        sent(x, 1, 2, 3, 64);
        for (int a = 0; a < 256; a++) {
            CHECK.due("both have the same at " + a, x.memory(2, a), x.memory(0, a));
        }
    }

    /** "all else of the guest comes (registers, DEVICES, what waits there, COUNT, how many outputs there were)". */
    private static void allElseComes() {
        Asm asm = new Asm().devices().lw(3, 1, Asm.KEY).lw(4, 1, Asm.KEY).addi(2, 0, 0x200).sw(2, 1, Asm.RECEIVE).sw(2, 1, Asm.CONSOLE);
        int[] words = {Asm.COMPARE, Asm.BLOCK, Asm.ADDRESS, Asm.LENGTH, Asm.FRAME};
        for (int i = 0; i < words.length; i++) {
            asm.addi(5, 0, i + 3).sw(5, 1, words[i]);
        }
        int[] control = {Asm.STATUS, Asm.VECTOR, Asm.SCRATCH, Asm.BACK, Asm.CAUSE, Asm.VALUE};
        for (int i = 0; i < control.length; i++) {
            asm.csr(5, 0, control[i], 24 + i);
        }
        int steps = asm.words().length;
        asm.lw(20, 1, Asm.KEY).lw(21, 1, Asm.KEY).lw(22, 1, Asm.RECEIVE).sw(2, 1, Asm.RECEIVE).lw(23, 1, Asm.RECEIVE);
        for (int i = 0; i < words.length; i++) {
            asm.lw(25 + i, 1, words[i]);
        }
        ReplayHosts x = asm.booted(2, 4, 4);
        for (int i = 1; i < 5; i++) {
            x.key(i);
        }
        for (int i = 1; i < 4; i++) {
            x.packet(i, 0x0101010101010101L * i, 0, 0, 0);
            x.tick();
        }
        x.run(0, steps);
        Programs.pair(x, 1);
        for (int what = 1; what < 72; what++) {
            CHECK.due("what " + what + " came", x.host(1, what), x.host(0, what));
        }
        CHECK.due("outputs", x.host(1, 4), 1);
        CHECK.due("none is kept", x.host(1, 5), 0);
        CHECK.due("keys", x.host(1, 12), 2);
        CHECK.due("packets", x.host(1, 13), 2);
        x.crash(0);
        x.suspect(1);
        x.run(1, 10);
        int[][] due = {{20, 3}, {21, 4}, {22, 2}, {23, 3}, {25, 3}, {26, 4}, {27, 5}, {28, 6}, {29, 7}};
        for (int[] d : due) {
            CHECK.due("register " + d[0], x.host(1, 32 + d[0]), d[1]);
        }
        CHECK.due("the packet", x.memory(1, 0x201), 2);
    }

    private static void sleepComes() {
        for (int bits : new int[] {0, 0x800}) {
            ReplayHosts x = new Asm().li(2, bits).csr(1, 0, Asm.ENABLED, 2).sleep().addi(3, 3, 1).booted(2, 4, 4);
            x.run(0, 10);
            Programs.pair(x, 1);
            CHECK.due("ASLEEP", x.host(1, 3), 1);
            x.key(1);
            x.run(0, 1);
            x.deliver();
            x.suspect(1);
            CHECK.due("it wakes, or doesn't", x.run(1, 1), bits == 0 ? 0 : 1);
            CHECK.due("register 3", x.host(1, 35), bits == 0 ? 0 : 1);
        }
    }

    /** "its kind, block, address and bytes stay the DISK's": also of a BACKUP that came while it is BUSY. */
    private static void operationComes() {
        for (int kind = 1; kind < 3; kind++) {
            Asm asm = Programs.diskOnce(kind);
            ReplayHosts x = asm.booted(2, 4, 4);
            x.run(0, Programs.DISK_STEPS);
            Programs.pair(x, 1);
            CHECK.due("BUSY", x.host(1, 11), 1);
            x.crash(0);
            x.suspect(1);
            CHECK.yes("that of host 0", x.disk());
            CHECK.due("written once", x.block(3, 0), kind == 2 ? 0x5A : 0);
            CHECK.due("to be read", x.memory(1, 0x200), 0x5A);
            CHECK.yes("that of host 1", x.disk());
            CHECK.due("DONE", x.host(1, 11), 2);
            CHECK.due("read", x.memory(1, 0x200), kind == 1 ? 0 : 0x5A);
            CHECK.due("written", x.block(3, 0), kind == 2 ? 0x5A : 0);
        }
    }

    /** "If one of both is DEAD, the RECEIVING one is SPARE (or DEAD) again." */
    private static void crashOfEither() {
        for (int pages = 0; pages <= 4; pages++) {
            ReplayHosts x = Programs.counting().booted(3, 4, 4);
            x.run(0, 10);
            x.protect(1);
            for (int i = 0; i < pages; i++) {
                sent(x, i);
            }
            x.crash(0);
            state("the LIVE one", x, 0, DEAD);
            state("the RECEIVING one", x, 1, SPARE);
            CHECK.due("to be sent", x.host(1, 8), 0);
            sent(x, -1);
            CHECK.no("none is LIVE", x.protect(1));
            CHECK.no("none was DEAD", x.repair(1));
            x = Programs.counting().booted(3, 4, 4);
            x.run(0, 10);
            x.protect(1);
            for (int i = 0; i < pages; i++) {
                sent(x, i);
            }
            x.crash(1);
            state("the LIVE one", x, 0, LIVE);
            state("the RECEIVING one", x, 1, DEAD);
            sent(x, -1);
            CHECK.yes("another", x.protect(2));
            CHECK.due("all are to be sent", x.host(2, 8), 4);
        }
    }

    private static void crashOfAThird() {
        ReplayHosts x = Programs.counting().booted(3, 4, 4);
        x.protect(1);
        sent(x, 0);
        x.crash(2);
        state("the RECEIVING one", x, 1, RECEIVING);
        sent(x, 1);
        x.repair(2);
        sent(x, 2, 3, 64);
        // A BACKUP that was left, and is HALTED or DEAD, is nothing to a RECEIVING one either.
        x.suspect(0);
        x.protect(2);
        sent(x, 0);
        x.suspect(1);
        state("HALTED", x, 1, HALTED);
        state("the RECEIVING one", x, 2, RECEIVING);
        x.crash(1);
        state("the RECEIVING one", x, 2, RECEIVING);
        sent(x, 1, 2, 3, 64);
    }
}
