/** The boundary cases that the document's sentences on HOSTS name: log and LEFT, CHANNEL and ROOM, run, suspect, transfer, the DISK. */
public final class HostsEdgesTest {
    private static final Check CHECK = new Check();
    private static final Twins TWINS = new Twins(CHECK);

    private static final int SPARE = 0;
    private static final int LIVE = 1;
    private static final int BACKUP = 2;
    private static final int TAKING = 3;
    private static final int RECEIVING = 4;
    private static final int HALTED = 5;
    private static final int DEAD = 6;

    public static void main(String[] args) {
        leftCountsFromTheBeginning();
        leftTellsJustThoseThatGo();
        leftGoesOnInTheNextPair();
        outHasTheCountBehindItsStep();
        roomOfEvents();
        roomIsFreedByAcksAlone();
        roomOfAFailedOutput();
        stalledAtJustThreeWords();
        stalledWhateverItWouldDo();
        notStalledByOtherStores();
        notStalledByAnInterrupt();
        notStalledWithoutABackup();
        stalledAtTheEndOfMemory();
        leavesInOrder();
        backupTakesAheadOfSteps();
        backupTakesAllOfOneCount();
        backupThatSleeps();
        backupWithoutEntries();
        takingWithoutEntries();
        takingGoesLiveAheadOfAStep();
        takingGoesLiveBetweenSteps();
        takingKeepsWhatDidNotLeave();
        takingPutsOutItsOperation();
        takingWhoseDiskIsDone();
        channelInOrder();
        channelOfADeadOne();
        acksOfADeadBackup();
        suspectMarks();
        suspectOfBoth();
        nothingIsUnacknowledgedInTheNextPair();
        nothingCameToARepairedBackup();
        repairedLiveReplaysAsABackup();
        CHECK.end();
    }

    private static void state(String what, ReplayHosts x, int host, int want) {
        CHECK.due(what + ": host " + host + " is", x.host(host, 0), want);
    }

    private static void deliverAll(ReplayHosts x) {
        for (int i = 0; i < 32 && x.deliver(); i++) {
            continue;
        }
    }

    private static void ackAll(ReplayHosts x) {
        for (int i = 0; i < 32 && x.ack(); i++) {
            continue;
        }
    }

    /** "LEFT: how many outputs of the guest (from its beginning on) had left": those ahead of the pair, too. */
    private static void leftCountsFromTheBeginning() {
        ReplayHosts x = Programs.counting().booted(2, 4, 8);
        x.run(0, 16);
        CHECK.due("5 left ahead of the pair", x.host(0, 4), 5);
        Programs.pair(x, 1);
        CHECK.due("the BACKUP knows how many there were", x.host(1, 4), 5);
        CHECK.due("none is kept", x.host(1, 5), 0);
        x.run(0, 6);
        deliverAll(x);
        x.run(1, 100);
        CHECK.due("6 and 7 are kept: 5 left", x.host(1, 5), 2);
        x.ack();
        x.tick();
        deliverAll(x);
        x.run(1, 100);
        CHECK.due("7 is kept: 6 left", x.host(1, 5), 1);
        x.suspect(1);
        CHECK.outside("7 leaves", x, 1, 2, 3, 4, 5, 6, 7);
    }

    /** "as they went into the CHANNEL": what leaves behind that isn't told; "those up to LEFT of the latest entry that it took go". */
    private static void leftTellsJustThoseThatGo() {
        for (int acks = 0; acks <= 4; acks++) {
            ReplayHosts x = Programs.paired(Programs.counting(), 2, 8);
            x.run(0, 13);
            deliverAll(x);
            for (int i = 0; i < acks; i++) {
                x.ack();
            }
            x.tick();
            ackAll(x);
            CHECK.outside("all left", x, 1, 2, 3, 4);
            x.deliver();
            CHECK.due("steps", x.run(1, 100), 13);
            CHECK.due("kept, as the tick's LEFT is " + acks, x.host(1, 5), 4 - acks);
            CHECK.due("outputs", x.host(1, 4), 4);
            x.suspect(1);
            for (int i = 0; i < 4 - acks; i++) {
                CHECK.due("what the BACKUP doesn't know to have left leaves again", x.out(4 + i), acks + 1 + i);
            }
            CHECK.due("and no more", x.out(8 - acks), -1);
        }
    }

    private static void leftGoesOnInTheNextPair() {
        ReplayHosts x = Programs.paired(Programs.counting(), 3, 8);
        x.run(0, 7);
        deliverAll(x);
        x.run(1, 100);
        x.crash(0);
        x.suspect(1);
        CHECK.outside("two left", x, 1, 2);
        Programs.pair(x, 2);
        x.run(1, 6);
        x.deliver();
        x.deliver();
        x.run(2, 100);
        CHECK.due("3 and 4 are kept", x.host(2, 5), 2);
        x.ack();
        x.tick();
        x.deliver();
        x.run(2, 100);
        CHECK.due("4 is kept", x.host(2, 5), 1);
    }

    /** "OUT; its COUNT is that behind its step". */
    private static void outHasTheCountBehindItsStep() {
        ReplayHosts x = Programs.paired(Programs.counting(), 2, 8);
        x.run(0, 3);
        x.deliver();
        CHECK.due("up to the OUT", x.run(1, 2), 2);
        CHECK.due("it isn't put out yet", x.host(1, 4), 0);
        CHECK.due("that step, too", x.run(1, 100), 1);
        CHECK.due("put out", x.host(1, 4), 1);
        CHECK.due("COUNT", x.host(1, 1), 3);
        CHECK.due("taken", x.host(1, 7), 0);
    }

    /** "Without room no event is taken": of each kind, at each ROOM's edge. */
    private static void roomOfEvents() {
        for (int room : new int[] {1, 2, 31, 32}) {
            for (int kind = 0; kind < 4; kind++) {
                int which = kind;
                int most = room;
                TWINS.refused("event " + kind + " without room " + room, () -> full(most, 0), x -> event(x, which), 0);
                ReplayHosts x = full(room, 1);
                CHECK.due("event " + kind + " with room for one", event(x, kind), 1);
                CHECK.due("unacknowledged", x.host(0, 6), room);
                CHECK.due("and no more", event(x, kind), 0);
            }
        }
    }

    /** An operation waits, and there is room for so many entries. */
    private static ReplayHosts full(int room, int free) {
        ReplayHosts x = Programs.diskOnce(2).booted(2, 4, room);
        x.run(0, Programs.DISK_STEPS);
        Programs.pair(x, 1);
        for (int i = 0; i < room - free; i++) {
            x.tick();
        }
        return x;
    }

    private static long event(ReplayHosts x, int kind) {
        boolean taken = kind == 0 ? x.key(1) : kind == 1 ? x.packet(1, 1, 0, 0, 0) : kind == 2 ? x.tick() : x.disk();
        return taken ? 1 : 0;
    }

    /** "unacknowledged, in the CHANNEL or beyond": neither deliver() nor the BACKUP's run() makes room. */
    private static void roomIsFreedByAcksAlone() {
        for (int room : new int[] {1, 2, 32}) {
            ReplayHosts x = full(room, 0);
            for (int i = 0; i < room; i++) {
                CHECK.yes("deliver", x.deliver());
                CHECK.no("in the CHANNEL or beyond", x.tick());
            }
            x.run(1, 100);
            CHECK.due("taken", x.host(1, 7), 0);
            CHECK.no("unacknowledged yet", x.tick());
            for (int i = 0; i < room; i++) {
                CHECK.due("unacknowledged", x.host(0, 6), room - i);
                CHECK.yes("ack", x.ack());
            }
            CHECK.due("none", x.host(0, 6), 0);
            for (int i = 0; i < room; i++) {
                CHECK.yes("room again", x.tick());
            }
            CHECK.no("no more", x.tick());
        }
    }

    /** What puts nothing out is no entry: a SEND with a wrong LENGTH, a DISK that is told nothing. */
    private static void roomOfAFailedOutput() {
        Asm asm = new Asm().devices().sw(0, 1, Asm.SEND).sw(0, 1, Asm.DISK).addi(2, 0, 3).sw(2, 1, Asm.DISK).sw(0, 1, Asm.CONSOLE).sw(0, 1, Asm.SEND);
        ReplayHosts x = Programs.paired(asm, 2, 1);
        CHECK.due("up to the SEND behind the one output", x.run(0, 100), 6);
        CHECK.due("one entry", x.host(0, 6), 1);
        CHECK.due("one output", x.host(0, 4), 1);
    }

    /** "stores to CONSOLE, DISK or SEND .. to just these addresses". */
    private static void stalledAtJustThreeWords() {
        for (int device = -8; device <= 48; device += 4) {
            boolean stalls = device == Asm.CONSOLE || device == Asm.DISK || device == Asm.SEND;
            Asm asm = new Asm().devices().addi(1, 1, -2000).sw(0, 1, 2000 + device).addi(2, 0, 1);
            ReplayHosts x = Programs.paired(asm, 2, 1);
            x.tick();
            CHECK.due("a store to " + device, x.run(0, 3), stalls ? 2 : 3);
            CHECK.due("COUNT", x.host(0, 1), stalls ? 2 : 3);
            CHECK.due("again", x.run(0, 1), stalls ? 0 : 1);
            x.deliver();
            CHECK.due("not acknowledged", x.run(0, 1), stalls ? 0 : 1);
            x.ack();
            CHECK.due("with room", x.run(0, 1), 1);
        }
    }

    /** "whatever it would do": also what would put nothing out stalls. */
    private static void stalledWhateverItWouldDo() {
        for (int v : new int[] {0, 1, 2, 3, -1}) {
            Asm asm = new Asm().devices().addi(2, 0, v).sw(2, 1, Asm.BLOCK).sw(2, 1, Asm.DISK);
            ReplayHosts x = Programs.paired(asm, 2, 1);
            x.tick();
            CHECK.due(v + " to DISK", x.run(0, 100), 3);
            asm = new Asm().devices().addi(2, 0, v).sw(2, 1, Asm.LENGTH).sw(2, 1, Asm.SEND);
            x = Programs.paired(asm, 2, 1);
            x.tick();
            CHECK.due(v + " to SEND", x.run(0, 100), 3);
        }
        // To a BUSY DISK, too.
        ReplayHosts x = Programs.paired(new Asm().devices().addi(2, 0, 2).sw(2, 1, Asm.DISK).sw(2, 1, Asm.DISK), 2, 1);
        CHECK.due("BUSY", x.run(0, 100), 3);
        CHECK.due("BUSY", x.host(0, 11), 1);
    }

    /** "a word's store, 35 with F 2": bytes, halves, loads, stores to MEMORY and other words go on. */
    private static void notStalledByOtherStores() {
        Asm asm = new Asm().devices().sw(1, 0, 0x300).store(0, 1, 0, 0x304).store(1, 1, 0, 0x306);
        for (int device : new int[] {Asm.CONSOLE, Asm.DISK, Asm.SEND}) {
            asm.lw(2, 1, device);
        }
        ReplayHosts x = Programs.paired(asm, 2, 1);
        x.tick();
        CHECK.due("loads, stores to MEMORY", x.run(0, 7), 7);
        for (int f : new int[] {0, 1, 3, 4, 5, 6, 7}) {
            for (int device : new int[] {Asm.CONSOLE, Asm.DISK, Asm.SEND}) {
                x = Programs.paired(new Asm().devices().store(f, 0, 1, device), 2, 1);
                x.tick();
                CHECK.due("35 with F " + f, x.run(0, 2), 2);
                CHECK.due("35 with F " + f, x.host(0, 69), f < 2 ? 7 : 2);
            }
        }
        x = Programs.paired(new Asm().devices().sw(0, 1, Asm.CONSOLE + 2), 2, 1);
        x.tick();
        CHECK.due("no multiple of 4", x.run(0, 2), 2);
        CHECK.due("no multiple of 4", x.host(0, 69), 6);
    }

    /** "if it would be carried out then, no TRAP of an interrupt". */
    private static void notStalledByAnInterrupt() {
        for (int bits : new int[] {0, 0x800}) {
            for (int on : new int[] {0, 8}) {
                Asm asm = new Asm().devices().addi(7, 0, 0x100).csr(1, 0, Asm.VECTOR, 7).li(2, bits).csr(1, 0, Asm.ENABLED, 2).csr(5, 0, Asm.STATUS, on);
                ReplayHosts x = Programs.paired(asm.sw(0, 1, Asm.CONSOLE).at(0x100).addi(3, 0, 1), 2, 1);
                x.run(0, 7);
                x.key(1);
                boolean trap = bits != 0 && on != 0;
                CHECK.due("ENABLED " + bits + ", STATUS " + on, x.run(0, 2), trap ? 2 : 0);
                CHECK.due("the handler", x.host(0, 35), trap ? 1 : 0);
            }
        }
    }

    private static void notStalledWithoutABackup() {
        ReplayHosts x = Programs.counting().booted(2, 4, 1);
        CHECK.due("no BACKUP", x.run(0, 2000), 2000);
        x.protect(1);
        CHECK.due("one is RECEIVING", x.run(0, 2000), 2000);
        CHECK.due("all left", x.host(0, 5), 0);
    }

    /** MEMORY's last word is looked at; a place that isn't in MEMORY has none. */
    private static void stalledAtTheEndOfMemory() {
        ReplayHosts last = Programs.paired(new Asm().devices().jal(0, 0x3F8).at(0x3FC).sw(0, 1, Asm.CONSOLE), 2, 1);
        last.tick();
        CHECK.due("STALLED", last.run(0, 3), 2);
        CHECK.due("at the last word", last.host(0, 2), 0x3FC);
        ReplayHosts x = Programs.paired(new Asm().devices().jal(0, 0x3FC), 2, 1);
        x.tick();
        CHECK.due("FETCH", x.run(0, 3), 3);
        CHECK.due("FETCH", x.host(0, 69), 1);
    }

    /** "it leaves, in order, as soon as its OUT is acknowledged"; an operation among them. */
    private static void leavesInOrder() {
        // 1 to the console, an operation, a packet, 2 to the console.
        Asm asm = new Asm().devices().addi(2, 0, 1).sw(2, 1, Asm.CONSOLE).addi(3, 0, 2).sw(3, 1, Asm.DISK).sw(2, 1, Asm.LENGTH).sw(0, 1, Asm.SEND);
        ReplayHosts x = Programs.paired(asm.sw(3, 1, Asm.CONSOLE).jal(0, 0), 2, 8);
        x.run(0, 50);
        CHECK.due("outputs", x.host(0, 4), 4);
        CHECK.due("kept", x.host(0, 5), 4);
        deliverAll(x);
        CHECK.outside("none is acknowledged", x);
        x.ack();
        CHECK.outside("the first", x, 1);
        CHECK.no("the operation is kept", x.disk());
        x.ack();
        CHECK.outside("the operation is no number", x, 1);
        x.ack();
        CHECK.outside("the packet", x, 1, 256, 1, 0xB7);
        CHECK.due("kept", x.host(0, 5), 1);
        CHECK.yes("the operation waits", x.disk());
        x.ack();
        CHECK.outside("the last", x, 1, 256, 1, 0xB7, 2);
        CHECK.due("kept", x.host(0, 5), 0);
        CHECK.due("outputs", x.host(0, 4), 4);
    }

    /** "ahead of each step (of as many as it is asked for; not behind the last one)". */
    private static void backupTakesAheadOfSteps() {
        ReplayHosts x = Programs.paired(Programs.echo(), 2, 8);
        x.run(0, 5);
        x.tick();
        x.run(0, 5);
        x.tick();
        deliverAll(x);
        CHECK.due("none asked for", x.run(1, 0), 0);
        CHECK.due("none is taken", x.host(1, 7), 2);
        CHECK.due("4", x.run(1, 4), 4);
        CHECK.due("not there", x.host(1, 7), 2);
        CHECK.due("the 5th", x.run(1, 1), 1);
        CHECK.due("not behind the last step", x.host(1, 7), 2);
        CHECK.due("CLOCK", x.host(1, 9), 0);
        CHECK.due("none asked for", x.run(1, 0), 0);
        CHECK.due("none is taken", x.host(1, 7), 2);
        CHECK.due("the 6th", x.run(1, 1), 1);
        CHECK.due("ahead of it", x.host(1, 7), 1);
        CHECK.due("CLOCK", x.host(1, 9), 1);
        CHECK.due("up to the last entry", x.run(1, 2000), 4);
        CHECK.due("taken", x.host(1, 7), 0);
        CHECK.due("none is left: no step", x.run(1, 2000), 0);
        CHECK.due("COUNT", x.host(1, 1), 10);
    }

    /** "entries that came to it whose COUNT is its guest's are taken, one by one .. then, if none is left, it makes no step". */
    private static void backupTakesAllOfOneCount() {
        ReplayHosts x = Programs.paired(Programs.echo(), 2, 32);
        for (int i = 0; i < 16; i++) {
            x.key(65 + i);
        }
        for (int i = 0; i < 4; i++) {
            x.packet(i + 1, 0, 0, 0, 0);
            x.tick();
        }
        x.run(0, 1);
        x.tick();
        deliverAll(x);
        CHECK.due("all came", x.host(1, 7), 25);
        CHECK.due("one step", x.run(1, 1), 1);
        CHECK.due("24 of the COUNT 0", x.host(1, 7), 1);
        CHECK.due("keys", x.host(1, 12), 16);
        CHECK.due("packets", x.host(1, 13), 4);
        CHECK.due("CLOCK", x.host(1, 9), 4);
        CHECK.due("no step behind the last", x.run(1, 1), 0);
        CHECK.due("CLOCK", x.host(1, 9), 5);
        x.suspect(1);
        x.run(1, 100);
        for (int i = 0; i < 16; i++) {
            CHECK.due("in order", x.out(i), 65 + i);
        }
    }

    /** A guest that slept is woken at the very COUNT. */
    private static void backupThatSleeps() {
        Asm asm = new Asm().devices().li(2, 0x800).csr(1, 0, Asm.ENABLED, 2).sleep().lw(3, 1, Asm.KEY).sw(3, 1, Asm.CONSOLE).jal(0, -12);
        ReplayHosts x = Programs.paired(asm, 2, 8);
        x.run(0, 100);
        x.tick();
        CHECK.due("a TICK wakes not", x.run(0, 100), 0);
        x.key(65);
        CHECK.due("a round", x.run(0, 100), 4);
        x.key(66);
        CHECK.due("a round", x.run(0, 100), 4);
        deliverAll(x);
        CHECK.due("up to the last OUT", x.run(1, 100), (int) x.host(0, 1) - 2);
        x.tick();
        x.deliver();
        CHECK.due("up to its sleep", x.run(1, 100), 2);
        CHECK.due("ASLEEP", x.host(1, 3), 1);
        CHECK.due("COUNT", x.host(1, 1), x.host(0, 1));
        x.suspect(1);
        state("no entry left", x, 1, LIVE);
        CHECK.due("ASLEEP", x.run(1, 100), 0);
        CHECK.outside("what is kept leaves", x, 65, 66);
    }

    private static void backupWithoutEntries() {
        ReplayHosts x = Programs.paired(Programs.echo(), 2, 8);
        x.run(0, 100);
        TWINS.refused("a BACKUP that none came to", () -> Programs.paired(Programs.echo(), 2, 8), y -> y.run(1, 2000), 0);
        x.tick();
        CHECK.due("in the CHANNEL yet", x.run(1, 2000), 0);
        x.deliver();
        CHECK.due("it came", x.run(1, 2000), 100);
    }

    /** "When a TAKING one has no entry left (looked at as it is TAKING ..) it is LIVE". */
    private static void takingWithoutEntries() {
        ReplayHosts x = Programs.paired(Programs.counting(), 2, 8);
        x.run(0, 8);
        x.suspect(1);
        state("no entry came", x, 1, LIVE);
        CHECK.due("those in the CHANNEL are gone", x.host(1, 1), 0);
        CHECK.outside("none was kept", x);
        CHECK.due("without a BACKUP", x.host(1, 14), 0);
        x.run(1, 4);
        CHECK.outside("at once", x, 1);
    }

    /** "behind each entry that it takes": ahead of the first step, with run() of a LIVE one from there on. */
    private static void takingGoesLiveAheadOfAStep() {
        ReplayHosts x = Programs.paired(Programs.counting(), 2, 1);
        x.tick();
        x.deliver();
        x.suspect(1);
        state("one left", x, 1, TAKING);
        CHECK.due("0 steps: not looked at", x.run(1, 0), 0);
        state("one left", x, 1, TAKING);
        CHECK.due("one step", x.run(1, 1), 1);
        state("none left", x, 1, LIVE);
        CHECK.due("CLOCK", x.host(1, 9), 1);
        CHECK.due("no STALL of one without a BACKUP", x.run(1, 2000), 2000);
    }

    private static void takingGoesLiveBetweenSteps() {
        for (int steps = 1; steps < 14; steps++) {
            ReplayHosts x = Programs.paired(Programs.counting(), 2, 8);
            x.run(0, 9);
            deliverAll(x);
            x.suspect(1);
            CHECK.due("OUTs of the COUNTs 3, 6 and 9", x.host(1, 7), 3);
            CHECK.due("steps", x.run(1, steps), steps);
            state("the last is taken ahead of the 10th step: " + steps, x, 1, steps < 10 ? TAKING : LIVE);
            CHECK.due("outputs", x.host(1, 4), steps / 3);
            CHECK.due("kept", x.host(1, 5), steps < 10 ? steps / 3 : 0);
            CHECK.due("at the OUTSIDE", x.out(0), steps < 10 ? -1 : 1);
            CHECK.due("at the OUTSIDE", x.out(2), steps < 10 ? -1 : 3);
            CHECK.due("at the OUTSIDE", x.out(3), steps < 12 ? -1 : 4);
        }
    }

    /** "what is kept leaves, in order", but those up to LEFT. */
    private static void takingKeepsWhatDidNotLeave() {
        ReplayHosts x = Programs.paired(Programs.counting(), 2, 8);
        x.run(0, 13);
        deliverAll(x);
        x.ack();
        x.ack();
        x.run(0, 3);
        x.deliver();
        x.crash(0);
        CHECK.outside("two left", x, 1, 2);
        x.suspect(1);
        x.run(1, 2000);
        CHECK.due("no doubles of 1 and 2", x.out(2), 3);
        CHECK.due("in order", x.out(3), 4);
        CHECK.due("in order", x.out(4), 5);
        CHECK.due("in order", x.out(5), 6);
    }

    /** "an operation that is kept is among these; if its guest's DISK is BUSY, and none is kept, that one is put out once more". */
    private static void takingPutsOutItsOperation() {
        for (int told = 0; told < 2; told++) {
            ReplayHosts x = Programs.paired(Programs.diskOnce(2), 2, 8);
            x.run(0, 20);
            x.deliver();
            x.ack();
            if (told == 1) {
                x.tick();
                x.deliver();
            }
            x.crash(0);
            x.suspect(1);
            x.run(1, 100);
            state("went LIVE", x, 1, LIVE);
            CHECK.due("BUSY", x.host(1, 11), 1);
            CHECK.due("outputs", x.host(1, 4), 1);
            CHECK.yes("that of the former one", x.disk());
            CHECK.due("it isn't host 1's", x.host(1, 11), 1);
            CHECK.yes("host 1's", x.disk());
            CHECK.due("DONE", x.host(1, 11), 2);
            CHECK.no("just one", x.disk());
        }
    }

    private static void takingWhoseDiskIsDone() {
        ReplayHosts x = Programs.paired(Programs.diskOnce(2), 2, 8);
        x.run(0, 20);
        x.deliver();
        x.ack();
        CHECK.yes("done", x.disk());
        x.deliver();
        x.crash(0);
        x.suspect(1);
        x.run(1, 100);
        state("went LIVE", x, 1, LIVE);
        CHECK.due("DONE", x.host(1, 11), 2);
        CHECK.no("nothing is put out once more", x.disk());
        x = Programs.paired(Programs.counting(), 2, 8);
        x.suspect(1);
        CHECK.due("IDLE", x.host(1, 11), 0);
        CHECK.no("nothing is put out", x.disk());
    }

    /** "the oldest entry of the CHANNEL", "the oldest acknowledgement under way". */
    private static void channelInOrder() {
        ReplayHosts x = Programs.paired(Programs.echo(), 2, 32);
        for (int i = 0; i < 16; i++) {
            x.key(i + 1);
            if (i % 3 == 2) {
                x.deliver();
            }
        }
        deliverAll(x);
        x.run(1, 1);
        CHECK.due("16 keys", x.host(1, 12), 16);
        x.suspect(1);
        x.run(1, 200);
        for (int i = 0; i < 16; i++) {
            CHECK.due("in order", x.out(i), i + 1);
        }
        CHECK.due("and no more", x.out(16), -1);
    }

    /** "The CHANNEL is a pair's, also when its LIVE one is DEAD or HALTED (till that is SPARE)." */
    private static void channelOfADeadOne() {
        ReplayHosts x = Programs.paired(Programs.echo(), 2, 8);
        x.key(1);
        x.key(2);
        x.key(3);
        x.deliver();
        x.crash(0);
        CHECK.yes("DEAD", x.deliver());
        CHECK.no("no host is LIVE with a BACKUP", x.ack());
        x.repair(0);
        CHECK.no("SPARE", x.deliver());
        CHECK.no("SPARE", x.ack());
        CHECK.due("two came", x.host(1, 7), 2);
        x.suspect(1);
        state("TAKING", x, 1, TAKING);
        x.run(1, 100);
        CHECK.outside("two keys", x, 1, 2);
        Programs.pair(x, 0);
        CHECK.no("empty", x.deliver());
        CHECK.no("none under way", x.ack());
        CHECK.due("none unacknowledged", x.host(1, 6), 0);
    }

    /** "comes to the LIVE host with that BACKUP (also when that is gone)". */
    private static void acksOfADeadBackup() {
        for (int gone = 0; gone < 3; gone++) {
            ReplayHosts x = Programs.paired(Programs.counting(), 2, 8);
            x.run(0, 7);
            deliverAll(x);
            if (gone > 0) {
                x.crash(1);
            }
            if (gone > 1) {
                x.repair(1);
            }
            CHECK.yes("ack", x.ack());
            CHECK.outside("what may leave leaves", x, 1);
            CHECK.yes("ack", x.ack());
            CHECK.outside("what may leave leaves", x, 1, 2);
            CHECK.no("no more", x.ack());
        }
    }

    /** "if the shared disk's MARK is less than the pair's number, the MARK becomes it"; "one more than the MARK is, and than any pair's before". */
    private static void suspectMarks() {
        ReplayHosts x = Programs.counting().booted(4, 4, 4);
        int live = 0;
        for (int pair = 1; pair <= 12; pair++) {
            int backup = (live + 1) % 4;
            Programs.pair(x, backup);
            CHECK.due("the pair's number", x.host(live, 14), pair);
            CHECK.due("the pair's number", x.host(backup, 14), pair);
            CHECK.due("the MARK isn't it yet", x.block(8, 0), pair - 1);
            int first = pair % 2 == 0 ? live : backup;
            int second = live + backup - first;
            CHECK.yes("suspect", x.suspect(first));
            CHECK.due("the MARK", x.block(8, 0), pair);
            state("the first", x, first, LIVE);
            CHECK.yes("suspect", x.suspect(second));
            CHECK.due("the MARK", x.block(8, 0), pair);
            state("the second", x, second, HALTED);
            CHECK.yes("repair", x.repair(second));
            live = first;
        }
    }

    /** Whoever is first: the other is HALTED, and does nothing more. */
    private static void suspectOfBoth() {
        for (int first = 0; first < 2; first++) {
            int second = 1 - first;
            ReplayHosts x = Programs.paired(Programs.counting(), 2, 8);
            x.run(0, 7);
            deliverAll(x);
            x.run(1, 100);
            x.suspect(first);
            x.suspect(second);
            state("the second", x, second, HALTED);
            CHECK.due("it runs none", x.run(second, 5), 0);
            CHECK.no("it suspects none", x.suspect(second));
            CHECK.due("it has no MEMORY", x.memory(second, 0), -1);
            CHECK.outside("once", x, 1, 2);
            CHECK.due("the first runs", x.run(first, 3), 3);
            state("a RECEIVING one is none yet", x, second, HALTED);
            CHECK.yes("crash of a HALTED one", x.crash(second));
            state("crash", x, second, DEAD);
            CHECK.yes("repair", x.repair(second));
            state("repair", x, second, SPARE);
            CHECK.yes("protect", x.protect(second));
            state("protect", x, second, RECEIVING);
            for (int i = 0; i < 5; i++) {
                x.transfer();
            }
            state("transfer", x, second, BACKUP);
        }
    }

    /** "CHANNEL and what is under way are empty": and so is the ROOM. */
    private static void nothingIsUnacknowledgedInTheNextPair() {
        for (int delivered = 0; delivered <= 2; delivered++) {
            ReplayHosts x = Programs.paired(Programs.counting(), 3, 2);
            x.tick();
            x.tick();
            for (int i = 0; i < delivered; i++) {
                x.deliver();
            }
            x.suspect(0);
            Programs.pair(x, 2);
            CHECK.due("none unacknowledged", x.host(0, 6), 0);
            CHECK.no("the CHANNEL is empty", x.deliver());
            CHECK.no("none is under way", x.ack());
            CHECK.yes("room", x.tick());
            CHECK.yes("room", x.tick());
            CHECK.no("no more", x.tick());
            CHECK.due("what came to the one that was left is there yet", x.host(1, 7), delivered);
        }
    }

    /** What came to a host that was DEAD or HALTED since is gone, and so is what it kept. */
    private static void nothingCameToARepairedBackup() {
        for (int halted = 0; halted < 2; halted++) {
            ReplayHosts x = Programs.paired(Programs.counting(), 2, 8);
            x.run(0, 7);
            deliverAll(x);
            x.run(1, 4);
            CHECK.due("one is left", x.host(1, 7), 1);
            CHECK.due("one is kept", x.host(1, 5), 1);
            x.suspect(0);
            CHECK.yes("DEAD or HALTED", halted == 1 ? x.suspect(1) : x.crash(1));
            x.repair(1);
            Programs.pair(x, 1);
            CHECK.due("none came", x.host(1, 7), 0);
            CHECK.due("none is kept", x.host(1, 5), 0);
            CHECK.due("it runs none", x.run(1, 100), 0);
            x.suspect(1);
            state("no entry left", x, 1, LIVE);
            CHECK.outside("two left, once", x, 1, 2);
        }
    }

    /** One that was STALLED as the LIVE one isn't as a BACKUP, when it was DEAD or HALTED since. */
    private static void repairedLiveReplaysAsABackup() {
        for (int halted = 0; halted < 2; halted++) {
            ReplayHosts x = Programs.paired(Programs.counting(), 2, 2);
            x.run(0, 100);
            if (halted == 1) {
                x.suspect(1);
                CHECK.due("STALLED once more", x.run(0, 100), 6);
                x.suspect(0);
            } else {
                x.crash(0);
                x.suspect(1);
            }
            x.repair(0);
            Programs.pair(x, 0);
            CHECK.due("no output yet", x.host(0, 4), 0);
            CHECK.due("two outputs", x.run(1, 100), 8);
            deliverAll(x);
            CHECK.due("it replays both", x.run(0, 100), 6);
            CHECK.due("kept", x.host(0, 5), 2);
            CHECK.due("6 of a BACKUP", x.host(0, 6), 0);
            x.suspect(0);
            CHECK.outside("both leave", x, 1, 2);
            CHECK.yes("it hears", x.key(1));
            CHECK.due("it hears", x.host(0, 12), 1);
        }
    }
}
