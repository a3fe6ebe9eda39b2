/** The boundary cases that the document's sentences on disk(), the shared disk and a former LIVE host name. */
public final class SharedDiskEdgesTest {
    private static final Check CHECK = new Check();
    private static final Twins TWINS = new Twins(CHECK);

    private static final int LIVE = 1;
    private static final int HALTED = 5;
    private static final int BUSY = 1;
    private static final int DONE = 2;

    public static void main(String[] args) {
        noneWaits();
        blocksAreAllZero();
        oldestFirst();
        hostThatIsDead();
        hostThatIsSpare();
        hostThatIsHalted();
        hostThatLivesAnew();
        hostWhoseOperationIsKept();
        nothingIsDoneWithoutRoom();
        roomIsNothingToOneThatHearsNot();
        formerRunsOn();
        formerHearsNothingButADisk();
        formerWithoutRoomHoldsTheDisk();
        formerKeepsItsOutputs();
        formerThatIsRepaired();
        CHECK.end();
    }

    private static void state(String what, ReplayHosts x, int host, int want) {
        CHECK.due(what + ": host " + host + " is", x.host(host, 0), want);
    }

    private static long num(boolean b) {
        return b ? 1 : 0;
    }

    /** A write of block 3 waits at the shared disk; host 1 is host 0's BACKUP. */
    private static ReplayHosts waiting(int room) {
        ReplayHosts x = Programs.diskOnce(2).booted(3, 4, room);
        x.run(0, Programs.DISK_STEPS);
        Programs.pair(x, 1);
        return x;
    }

    /** "False if no operation waits". */
    private static void noneWaits() {
        TWINS.refused("disk() ahead of boot", () -> new ReplayHosts(4, 4, 4), y -> num(y.disk()), 0);
        TWINS.refused("disk() of a guest that has none", () -> Programs.paired(Programs.counting(), 4, 4), y -> num(y.disk()), 0);
        ReplayHosts x = Programs.diskOnce(2).booted(2, 4, 4);
        x.run(0, Programs.DISK_STEPS - 1);
        CHECK.no("not put out yet", x.disk());
        x.run(0, 1);
        CHECK.yes("put out", x.disk());
        CHECK.no("it is done", x.disk());
        CHECK.due("DONE", x.host(0, 11), DONE);
    }

    /** "8 blocks of 64 bytes, all 0, and the MARK, 0": what is read of one that was never written. */
    private static void blocksAreAllZero() {
        Asm asm = new Asm().devices().addi(2, 0, 0x200).sw(2, 1, Asm.ADDRESS).addi(3, 0, 7).sw(3, 1, Asm.BLOCK).addi(4, 0, 1).sw(4, 1, Asm.DISK);
        ReplayHosts x = new ReplayHosts(2, 4, 4);
        asm.into(x);
        for (int i = 0; i < 9; i++) {
            x.put(0x1FC + 8 * i, -1);
        }
        x.boot();
        x.run(0, 7);
        CHECK.yes("disk", x.disk());
        for (int i = -2; i < 66; i++) {
            CHECK.due("byte " + i, x.memory(0, 0x200 + i), i < 0 || i > 63 ? 255 : 0);
        }
        CHECK.due("MARK", x.block(8, 0), 0);
    }

    /** "an operation comes behind those that wait": those of several hosts, each with its own bytes. */
    private static void oldestFirst() {
        ReplayHosts x = waiting(4);
        x.suspect(1);
        state("two LIVE ones", x, 0, LIVE);
        state("two LIVE ones", x, 1, LIVE);
        CHECK.yes("host 0's", x.disk());
        CHECK.due("host 0 hears", x.host(0, 11), DONE);
        CHECK.due("host 1 doesn't", x.host(1, 11), BUSY);
        CHECK.yes("host 1's", x.disk());
        CHECK.due("host 1 hears", x.host(1, 11), DONE);
        CHECK.no("none waits", x.disk());
    }

    private static void heardByNone(String what, ReplayHosts x) {
        CHECK.due(what + ": not yet", x.block(3, 0), 0);
        CHECK.yes(what + ": done", x.disk());
        CHECK.due(what + ": the block is written", x.block(3, 0), 0x5A);
        CHECK.no(what + ": none waits", x.disk());
    }

    /** "if its host is LIVE (..) ..; else it is done (a write changes the block), and nobody hears of it". */
    private static void hostThatIsDead() {
        ReplayHosts x = waiting(4);
        x.crash(0);
        heardByNone("DEAD", x);
        CHECK.due("its BACKUP doesn't hear", x.host(1, 11), BUSY);
        CHECK.due("no entry", x.host(1, 7), 0);
        CHECK.no("no entry", x.deliver());
    }

    private static void hostThatIsSpare() {
        ReplayHosts x = waiting(4);
        x.crash(0);
        x.repair(0);
        heardByNone("SPARE", x);
        CHECK.due("its BACKUP doesn't hear", x.host(1, 11), BUSY);
    }

    private static void hostThatIsHalted() {
        ReplayHosts x = waiting(4);
        x.suspect(1);
        x.suspect(0);
        state("HALTED", x, 0, HALTED);
        CHECK.yes("host 0's", x.disk());
        CHECK.due("the new LIVE one hears of its own alone", x.host(1, 11), BUSY);
        CHECK.yes("host 1's", x.disk());
        CHECK.due("its own", x.host(1, 11), DONE);
    }

    /** "(.. and wasn't DEAD or HALTED since)". */
    private static void hostThatLivesAnew() {
        for (int halted = 0; halted < 2; halted++) {
            ReplayHosts x = waiting(4);
            if (halted == 1) {
                x.suspect(1);
                x.suspect(0);
            } else {
                x.crash(0);
                x.suspect(1);
            }
            x.repair(0);
            Programs.pair(x, 0);
            CHECK.due("BUSY came", x.host(0, 11), BUSY);
            x.suspect(0);
            state("LIVE anew", x, 0, LIVE);
            CHECK.yes("host 0's of then", x.disk());
            CHECK.due("it was DEAD or HALTED since", x.host(0, 11), BUSY);
            CHECK.yes("host 1's, a former LIVE one", x.disk());
            CHECK.due("it isn't host 0's", x.host(0, 11), BUSY);
            CHECK.due("host 1 hears", x.host(1, 11), DONE);
            CHECK.yes("host 0's of now", x.disk());
            CHECK.due("it hears", x.host(0, 11), DONE);
            CHECK.no("none waits", x.disk());
        }
    }

    /** What is kept doesn't wait at the shared disk yet. */
    private static void hostWhoseOperationIsKept() {
        ReplayHosts x = Programs.paired(Programs.diskOnce(2), 2, 4);
        x.run(0, 20);
        CHECK.due("BUSY", x.host(0, 11), BUSY);
        CHECK.no("in the CHANNEL", x.disk());
        x.deliver();
        CHECK.no("under way", x.disk());
        x.ack();
        CHECK.yes("acknowledged", x.disk());
        x = Programs.paired(Programs.diskOnce(2), 2, 4);
        x.run(0, 20);
        x.suspect(0);
        CHECK.yes("all that is kept leaves", x.disk());
        x = Programs.paired(Programs.diskOnce(2), 2, 4);
        x.run(0, 20);
        x.crash(0);
        CHECK.no("what was kept is gone", x.disk());
    }

    /** "if there is room for the entry; else nothing is done at all". */
    private static void nothingIsDoneWithoutRoom() {
        for (int room : new int[] {1, 2, 32}) {
            int most = room;
            TWINS.refused("disk() without room " + room, () -> withoutRoom(most), y -> num(y.disk()), 0);
            ReplayHosts x = withoutRoom(room);
            CHECK.no("no room", x.disk());
            CHECK.due("not done", x.block(3, 0), 0);
            x.deliver();
            CHECK.no("no room", x.disk());
            x.ack();
            CHECK.yes("room", x.disk());
            CHECK.due("done", x.block(3, 0), 0x5A);
            CHECK.due("DONE", x.host(0, 11), DONE);
            CHECK.due("unacknowledged", x.host(0, 6), room);
            CHECK.no("none waits", x.disk());
        }
    }

    private static ReplayHosts withoutRoom(int room) {
        ReplayHosts x = waiting(room);
        for (int i = 0; i < room; i++) {
            x.tick();
        }
        return x;
    }

    /** One that isn't LIVE any more needs no room. */
    private static void roomIsNothingToOneThatHearsNot() {
        ReplayHosts x = withoutRoom(1);
        x.crash(0);
        heardByNone("DEAD, and its CHANNEL full", x);
        x = withoutRoom(1);
        x.suspect(0);
        CHECK.yes("LIVE without a BACKUP needs none", x.disk());
        CHECK.due("it hears", x.host(0, 11), DONE);
    }

    /** "the former LIVE one still runs till it SUSPECTS, as one with a BACKUP, its CHANNEL empty and none unacknowledged at first". */
    private static void formerRunsOn() {
        for (int room : new int[] {1, 2, 32}) {
            ReplayHosts x = Programs.paired(Programs.counting(), 3, room);
            x.run(0, 2000);
            CHECK.due("no room", x.host(0, 6), room);
            x.suspect(1);
            CHECK.due("none unacknowledged at first", x.host(0, 6), 0);
            CHECK.due("the pair's number", x.host(0, 14), 1);
            CHECK.due("a ROOM's outputs more", x.run(0, 2000), 3 * room);
            CHECK.due("unacknowledged for ever", x.host(0, 6), room);
            CHECK.no("never delivered", x.deliver());
            CHECK.no("never acknowledged", x.ack());
            CHECK.due("STALLED", x.run(0, 2000), 0);
            CHECK.due("kept (counted yet)", x.host(0, 5), 2 * room);
            CHECK.due("outputs", x.host(0, 4), 2 * room);
            CHECK.outside("never leaves", x);
            x.run(1, 4);
            CHECK.outside("the LIVE one's", x, 1);
            x.suspect(0);
            state("it SUSPECTS", x, 0, HALTED);
            CHECK.outside("never leaves", x, 1);
            CHECK.due("0 of a HALTED one", x.host(0, 5), 0);
        }
    }

    /** "no event comes to it but a DISK". */
    private static void formerHearsNothingButADisk() {
        ReplayHosts x = waiting(1);
        x.suspect(1);
        CHECK.yes("key", x.key(1));
        CHECK.yes("packet", x.packet(1, 1, 0, 0, 0));
        CHECK.yes("tick", x.tick());
        for (int what : new int[] {9, 12, 13}) {
            CHECK.due("what " + what + " of the former one", x.host(0, what), 0);
            CHECK.due("what " + what + " of the LIVE one", x.host(1, what), 1);
        }
        CHECK.yes("disk", x.disk());
        CHECK.due("DONE", x.host(0, 11), DONE);
        CHECK.due("an entry, unacknowledged for ever", x.host(0, 6), 1);
        x.crash(1);
        CHECK.no("no key", x.key(1));
        CHECK.no("no packet", x.packet(1, 1, 0, 0, 0));
        CHECK.no("no tick", x.tick());
        // While its former BACKUP is TAKING yet, none hears.
        x = waiting(4);
        x.tick();
        x.deliver();
        x.suspect(1);
        CHECK.no("no key", x.key(1));
        CHECK.no("no packet", x.packet(1, 1, 0, 0, 0));
        CHECK.no("no tick", x.tick());
        CHECK.yes("but a DISK", x.disk());
        CHECK.due("it came to the former one", x.host(0, 11), DONE);
        CHECK.due("not to the TAKING one", x.host(1, 11), BUSY);
    }

    /** "else nothing is done at all, if there is no room": also of the former one, whose room is never free again. */
    private static void formerWithoutRoomHoldsTheDisk() {
        // Has the operation put out, then counts to the console.
        Asm asm = new Asm().devices().addi(2, 0, 0x200).sw(2, 1, Asm.ADDRESS).addi(3, 0, 2).sw(3, 1, Asm.DISK).addi(5, 5, 1).sw(5, 1, Asm.CONSOLE).jal(0, -8);
        ReplayHosts x = asm.booted(2, 4, 1);
        x.run(0, 5);
        Programs.pair(x, 1);
        x.suspect(1);
        CHECK.due("one output, then STALLED", x.run(0, 100), 4);
        CHECK.no("no room", x.disk());
        CHECK.due("BUSY", x.host(0, 11), BUSY);
        CHECK.due("the LIVE one's waits behind it", x.host(1, 11), BUSY);
        x.suspect(0);
        CHECK.yes("HALTED: nobody hears", x.disk());
        CHECK.due("BUSY", x.host(1, 11), BUSY);
        CHECK.yes("the LIVE one's", x.disk());
        CHECK.due("DONE", x.host(1, 11), DONE);
    }

    /** "what is kept there (counted yet) never leaves": also an operation. */
    private static void formerKeepsItsOutputs() {
        ReplayHosts x = Programs.paired(Programs.diskOnce(2), 2, 4);
        x.run(0, Programs.DISK_STEPS);
        x.deliver();
        x.suspect(1);
        x.run(1, 100);
        CHECK.due("kept there", x.host(0, 5), 1);
        CHECK.due("BUSY", x.host(0, 11), BUSY);
        CHECK.yes("the LIVE one's", x.disk());
        CHECK.due("DONE", x.host(1, 11), DONE);
        CHECK.due("BUSY for ever", x.host(0, 11), BUSY);
        CHECK.no("it never leaves", x.disk());
    }

    /** Repaired, it is one like any other: nothing of the former pair is there any more. */
    private static void formerThatIsRepaired() {
        ReplayHosts x = Programs.paired(Programs.counting(), 2, 2);
        x.run(0, 100);
        x.suspect(1);
        x.run(0, 100);
        x.suspect(0);
        x.repair(0);
        Programs.pair(x, 0);
        CHECK.due("none is kept", x.host(0, 5), 0);
        CHECK.due("none came", x.host(0, 7), 0);
        CHECK.due("the pair's number", x.host(0, 14), 2);
        x.tick();
        x.deliver();
        x.suspect(0);
        x.run(0, 5);
        state("LIVE", x, 0, LIVE);
        CHECK.due("CLOCK", x.host(0, 9), 1);
        CHECK.yes("it hears again", x.tick());
        CHECK.due("CLOCK", x.host(0, 9), 2);
        CHECK.due("the former one doesn't", x.host(1, 9), 1);
        CHECK.outside("it puts out again", x, 1);
    }
}
