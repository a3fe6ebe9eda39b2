/** Promises 1 to 19, one by one. */
public final class HostsTest {
    private static final Check CHECK = new Check();

    private static final int SPARE = 0;
    private static final int LIVE = 1;
    private static final int BACKUP = 2;
    private static final int TAKING = 3;
    private static final int RECEIVING = 4;
    private static final int HALTED = 5;
    private static final int DEAD = 6;

    public static void main(String[] args) {
        promise1NewObject();
        promise2Put();
        promise3Boot();
        promise4Run();
        promise4RunOfABackup();
        promise4RunOfATakingOne();
        promise4Stalled();
        promise5Key();
        promise6Packet();
        promise7Tick();
        promise8Disk();
        promise8DiskOfAFormerLife();
        promise8DiskWithoutRoom();
        promise9Deliver();
        promise10Ack();
        promise11SuspectOfABackup();
        promise11SuspectOfALiveOne();
        promise11FormerLive();
        promise11OperationOnceMore();
        promise12Protect();
        promise13Transfer();
        promise13Frame();
        promise13Pages();
        promise13Held();
        promise14Crash();
        promise15Repair();
        promise16Host();
        promise17Memory();
        promise18Block();
        promise19Out();
        manyOutputs();
        manyOperations();
        manyEntries();
        CHECK.end();
    }

    private static void state(String what, ReplayHosts x, int host, int want) {
        CHECK.due(what + ": host " + host + " is", x.host(host, 0), want);
    }

    /** Host 0's guest, or the LIVE one's, gets a host as its BACKUP. */
    private static void pair(ReplayHosts x, int backup) {
        CHECK.yes("protect(" + backup + ")", x.protect(backup));
        for (int i = 0; i < 200 && x.transfer() != 64; i++) {
            CHECK.due("RECEIVING", x.host(backup, 0), RECEIVING);
        }
        state("paired", x, backup, BACKUP);
    }

    private static ReplayHosts paired(Asm asm, int hosts, int room) {
        ReplayHosts x = asm.booted(hosts, 4, room);
        pair(x, 1);
        return x;
    }

    private static void promise1NewObject() {
        int[][] told = {{2, 4, 1}, {4, 16, 32}, {1, 3, 0}, {5, 17, 33}, {-9, -9, -9}, {Integer.MIN_VALUE, Integer.MAX_VALUE, Integer.MAX_VALUE}};
        int[][] are = {{2, 4, 1}, {4, 16, 32}, {2, 4, 1}, {4, 16, 32}, {2, 4, 1}, {2, 16, 32}};
        for (int i = 0; i < told.length; i++) {
            ReplayHosts x = new ReplayHosts(told[i][0], told[i][1], told[i][2]);
            int hosts = are[i][0];
            for (int h = 0; h < hosts; h++) {
                state("new", x, h, SPARE);
                CHECK.due("no COUNT", x.host(h, 1), 0);
                CHECK.due("no MEMORY", x.memory(h, 0), -1);
            }
            CHECK.due("no such host", x.host(hosts, 0), -1);
            CHECK.yes("the last eight bytes", x.put(256 * are[i][1] - 8, 0));
            CHECK.no("beyond", x.put(256 * are[i][1] - 7, 0));
            CHECK.no("nothing waits", x.disk());
            CHECK.due("MARK", x.block(8, 0), 0);
            CHECK.due("nothing came out", x.out(0), -1);
            CHECK.yes("boot", x.boot());
            CHECK.due("an image of 0s", x.memory(0, 100), 0);
            pair(x, 1);
            for (int k = 0; k < are[i][2]; k++) {
                CHECK.yes("room for tick " + k, x.tick());
            }
            CHECK.no("no room", x.tick());
        }
    }

    private static void promise2Put() {
        ReplayHosts x = new ReplayHosts(2, 4, 1);
        CHECK.yes("put", x.put(1, 0x8877665544332211L));
        CHECK.yes("the last eight", x.put(1016, -1));
        CHECK.no("one beyond", x.put(1017, 0x0102030405060708L));
        CHECK.no("below", x.put(-1, 1));
        CHECK.no("far below", x.put(Integer.MIN_VALUE, 1));
        CHECK.no("far above", x.put(Integer.MAX_VALUE, 1));
        CHECK.yes("boot", x.boot());
        CHECK.due("ahead", x.memory(0, 0), 0);
        for (int i = 0; i < 8; i++) {
            CHECK.due("byte " + i, x.memory(0, 1 + i), 0x11 * (i + 1));
        }
        CHECK.due("behind", x.memory(0, 9), 0);
        CHECK.due("none of those that were beyond", x.memory(0, 1017), 255);
        CHECK.due("the last", x.memory(0, 1023), 255);
        CHECK.yes("the image can be changed yet", x.put(0, -1));
        CHECK.due("the guest's MEMORY isn't it", x.memory(0, 0), 0);
    }

    private static void promise3Boot() {
        ReplayHosts x = Programs.echo().booted(2, 4, 1);
        state("booted", x, 0, LIVE);
        state("booted", x, 1, SPARE);
        CHECK.due("without a BACKUP", x.host(0, 14), 0);
        CHECK.due("MEMORY is the image", x.memory(0, 0), 0xB7);
        CHECK.no("boot again", x.boot());
        CHECK.yes("crash", x.crash(0));
        CHECK.no("boot behind a crash", x.boot());
        x = new ReplayHosts(2, 4, 1);
        x.crash(0);
        CHECK.yes("boot of a DEAD one", x.boot());
        state("booted", x, 0, LIVE);
        CHECK.due("it runs", x.run(0, 3), 3);
    }

    private static void promise4Run() {
        ReplayHosts x = new ReplayHosts(3, 4, 1);
        CHECK.due("SPARE", x.run(0, 5), 0);
        x.boot();
        CHECK.due("no such host", x.run(3, 1), -1);
        CHECK.due("no such host", x.run(-1, 1), -1);
        CHECK.due("no such number", x.run(0, -1), -1);
        CHECK.due("no such number", x.run(0, 2001), -1);
        CHECK.due("no such number of a SPARE one", x.run(1, 2001), -1);
        CHECK.due("none", x.run(0, 0), 0);
        CHECK.due("all", x.run(0, 2000), 2000);
        CHECK.due("COUNT", x.host(0, 1), 2000);
        CHECK.due("SPARE", x.run(1, 5), 0);
        x.protect(1);
        CHECK.due("RECEIVING", x.run(1, 5), 0);
        x.crash(0);
        CHECK.due("DEAD", x.run(0, 5), 0);
        x = new Asm().sleep().booted(2, 4, 1);
        CHECK.due("ASLEEP", x.run(0, 9), 1);
        CHECK.due("ASLEEP", x.run(0, 9), 0);
    }

    private static void promise4RunOfABackup() {
        ReplayHosts x = paired(Programs.echo(), 2, 8);
        CHECK.due("no entry, no step", x.run(1, 9), 0);
        x.run(0, 4);
        x.key(65);
        x.run(0, 10);
        CHECK.due("none came yet", x.run(1, 9), 0);
        x.deliver();
        CHECK.due("up to the KEY's COUNT", x.run(1, 9), 4);
        CHECK.due("it is taken", x.host(1, 7), 0);
        CHECK.due("the guest has it", x.host(1, 12), 1);
        x.deliver();
        CHECK.due("up to the OUT's COUNT, but two", x.run(1, 2), 2);
        CHECK.due("not there yet", x.host(1, 7), 1);
        CHECK.due("two more", x.run(1, 2), 2);
        CHECK.due("put out, and kept", x.host(1, 5), 1);
        CHECK.due("not taken behind the last step", x.host(1, 7), 1);
        CHECK.due("no step, nothing is taken", x.run(1, 0), 0);
        CHECK.due("not taken", x.host(1, 7), 1);
        CHECK.due("taken ahead of a step that isn't made", x.run(1, 1), 0);
        CHECK.due("taken", x.host(1, 7), 0);
        CHECK.due("kept yet", x.host(1, 5), 1);
        CHECK.due("what a BACKUP puts out leaves not", x.out(0), -1);
        x.ack();
        x.ack();
        CHECK.outside("acknowledged", x, 65);
        CHECK.due("the LIVE one keeps none", x.host(0, 5), 0);
        CHECK.due("the BACKUP doesn't know", x.host(1, 5), 1);
        x.tick();
        x.deliver();
        x.run(1, 100);
        CHECK.due("now it knows by LEFT", x.host(1, 5), 0);
        for (int what = 1; what < 72; what++) {
            boolean same = what < 5 || what > 8 && what < 14 || what > 31;
            if (same) {
                CHECK.due("both guests' " + what, x.host(1, what), x.host(0, what));
            }
        }
    }

    private static void promise4RunOfATakingOne() {
        ReplayHosts x = paired(Programs.echo(), 2, 8);
        x.run(0, 4);
        x.key(65);
        x.run(0, 10);
        x.tick();
        x.deliver();
        x.deliver();
        CHECK.yes("suspect", x.suspect(1));
        state("entries left", x, 1, TAKING);
        CHECK.due("the pair's number", x.host(1, 14), 1);
        CHECK.due("two came", x.host(1, 7), 2);
        CHECK.due("steps up to the OUT's COUNT", x.run(1, 8), 8);
        state("one left, not taken behind the last step", x, 1, TAKING);
        CHECK.due("none left the guest", x.out(0), -1);
        CHECK.due("kept", x.host(1, 5), 1);
        CHECK.due("no step", x.run(1, 0), 0);
        state("no step", x, 1, TAKING);
        CHECK.no("no guest hears", x.key(1));
        CHECK.due("steps of a LIVE one", x.run(1, 20), 20);
        state("none left", x, 1, LIVE);
        CHECK.outside("what was kept left", x, 65);
        CHECK.due("no pair", x.host(1, 14), 0);
        CHECK.due("what didn't come didn't happen", x.host(1, 9), 0);
        CHECK.yes("it hears", x.key(66));
        x.run(1, 10);
        CHECK.outside("at once", x, 65, 66);
    }

    private static void promise4Stalled() {
        ReplayHosts x = paired(Programs.counting(), 2, 2);
        CHECK.due("two outputs, then STALLED", x.run(0, 100), 8);
        CHECK.due("STALLED", x.run(0, 100), 0);
        CHECK.due("at the store", x.host(0, 2), 8);
        CHECK.due("kept", x.host(0, 5), 2);
        CHECK.due("unacknowledged", x.host(0, 6), 2);
        x.deliver();
        CHECK.due("beyond the CHANNEL it is unacknowledged yet", x.run(0, 100), 0);
        x.ack();
        CHECK.outside("left", x, 1);
        CHECK.due("one more", x.run(0, 100), 3);
        x.suspect(0);
        CHECK.outside("all leave", x, 1, 2, 3);
        CHECK.due("without a BACKUP", x.run(0, 100), 100);

        // Whatever the store would do: DISK has been told nothing that is an operation.
        Asm asm = new Asm().devices().addi(5, 0, 9).sw(5, 1, Asm.DISK).sw(5, 1, Asm.SEND).sw(5, 1, Asm.FRAME).sw(5, 1, Asm.DISK).jal(0, -4);
        x = paired(asm, 2, 1);
        CHECK.yes("tick", x.tick());
        CHECK.due("stalls at DISK", x.run(0, 100), 2);
        x.deliver();
        x.ack();
        CHECK.due("goes on", x.run(0, 3), 3);
        x.tick();
        CHECK.due("stalls at DISK, not at FRAME", x.run(0, 100), 0);

        // MEMORY's last word is looked at like any other.
        asm = new Asm().devices().jal(0, 1016).at(1020).sw(0, 1, Asm.CONSOLE);
        x = paired(asm, 2, 1);
        x.tick();
        CHECK.due("stalls at the last word", x.run(0, 100), 2);

        // A store of a half there is a TRAP, and so is an interrupt: neither stalls.
        asm = new Asm().devices().store(1, 0, 1, Asm.CONSOLE).jal(0, -4);
        x = paired(asm, 2, 1);
        x.tick();
        CHECK.due("no word", x.run(0, 50), 50);
        asm = new Asm().devices().li(2, 0x800).csr(1, 0, Asm.ENABLED, 2).li(2, 0x100).csr(1, 0, Asm.VECTOR, 2);
        asm.csr(5, 0, Asm.STATUS, 8).sw(0, 1, Asm.CONSOLE).at(0x100).jal(0, 0);
        x = paired(asm, 2, 1);
        x.run(0, 8);
        x.key(1);
        CHECK.due("an interrupt", x.run(0, 10), 10);
        CHECK.due("an interrupt", x.host(0, 69), 0x8000000BL);

        // A guest that wakes and then stalls is awake.
        asm = new Asm().devices().li(2, 0x800).csr(1, 0, Asm.ENABLED, 2).sleep().sw(0, 1, Asm.CONSOLE);
        x = paired(asm, 2, 1);
        x.run(0, 8);
        CHECK.due("ASLEEP", x.host(0, 3), 1);
        x.key(1);
        CHECK.due("STALLED", x.run(0, 10), 0);
        CHECK.due("awake", x.host(0, 3), 0);
    }

    private static void promise5Key() {
        ReplayHosts x = new ReplayHosts(2, 4, 1);
        CHECK.no("nothing is LIVE", x.key(1));
        x.boot();
        for (int i = 0; i < 16; i++) {
            CHECK.yes("key", x.key(i));
        }
        CHECK.no("16 wait", x.key(16));
        CHECK.due("16 wait", x.host(0, 12), 16);
        x = paired(Programs.echo(), 2, 1);
        CHECK.yes("key", x.key(0x141));
        CHECK.no("no room", x.key(2));
        CHECK.due("one entry", x.host(0, 6), 1);
        CHECK.due("one key", x.host(0, 12), 1);
        x.deliver();
        CHECK.no("no room: not acknowledged", x.key(2));
        x.ack();
        CHECK.yes("room", x.key(2));
        x.crash(0);
        CHECK.no("nothing is LIVE", x.key(1));
        x = paired(new Asm(), 2, 32);
        for (int i = 0; i < 16; i++) {
            x.key(i);
        }
        CHECK.no("16 wait", x.key(16));
        CHECK.due("16 entries", x.host(0, 6), 16);
    }

    private static void promise6Packet() {
        ReplayHosts x = new ReplayHosts(2, 4, 1);
        CHECK.no("nothing is LIVE", x.packet(1, 1, 2, 3, 4));
        x.boot();
        for (int n : new int[] {0, -1, 33, Integer.MIN_VALUE, Integer.MAX_VALUE}) {
            CHECK.no("a packet of " + n, x.packet(n, 1, 2, 3, 4));
        }
        for (int i = 0; i < 4; i++) {
            CHECK.yes("packet", x.packet(32, 1, 2, 3, 4));
        }
        CHECK.no("4 wait", x.packet(1, 1, 2, 3, 4));
        CHECK.due("4 wait", x.host(0, 13), 4);

        Asm asm = new Asm().devices().addi(2, 0, 0x100).lw(3, 1, Asm.RECEIVE).branch(0, 3, 0, -4);
        asm.sw(2, 1, Asm.RECEIVE).sw(3, 1, Asm.LENGTH).sw(2, 1, Asm.SEND).jal(0, -20);
        x = paired(asm, 2, 2);
        CHECK.yes("packet", x.packet(10, 0x8070605040302010L, 0xFFFFFFFFFFFF0201L, 0, 0));
        x.run(0, 20);
        CHECK.due("kept", x.host(0, 5), 1);
        CHECK.no("no room", x.packet(1, 0, 0, 0, 0));
        x.deliver();
        x.deliver();
        x.run(1, 20);
        CHECK.due("replayed", x.memory(1, 0x109), 2);
        x.ack();
        x.ack();
        CHECK.outside("sent on", x, 256, 10, 16, 32, 48, 64, 80, 96, 112, 128, 1, 2);
    }

    private static void promise7Tick() {
        ReplayHosts x = new ReplayHosts(2, 4, 1);
        CHECK.no("nothing is LIVE", x.tick());
        x.boot();
        CHECK.yes("tick", x.tick());
        CHECK.yes("tick", x.tick());
        CHECK.due("CLOCK", x.host(0, 9), 2);
        pair(x, 1);
        CHECK.due("CLOCK came", x.host(1, 9), 2);
        CHECK.yes("tick", x.tick());
        CHECK.no("no room", x.tick());
        CHECK.due("CLOCK", x.host(0, 9), 3);
        x.deliver();
        x.run(1, 1);
        CHECK.due("replayed", x.host(1, 9), 3);
    }

    private static void promise8Disk() {
        ReplayHosts x = new ReplayHosts(2, 4, 1);
        CHECK.no("none waits", x.disk());
        x = Programs.diskOnce(2).booted(2, 4, 4);
        x.run(0, 50);
        CHECK.due("BUSY", x.host(0, 11), 1);
        CHECK.yes("done", x.disk());
        CHECK.due("written", x.block(3, 0), 0x5A);
        CHECK.due("DONE", x.host(0, 11), 2);
        CHECK.no("none waits", x.disk());

        x = paired(Programs.diskOnce(2), 2, 4);
        x.run(0, 50);
        CHECK.no("kept: it doesn't wait there yet", x.disk());
        x.deliver();
        x.ack();
        CHECK.yes("it left", x.disk());
        CHECK.due("an entry", x.host(0, 6), 1);
        x.deliver();
        x.run(1, 100);
        CHECK.due("replayed", x.host(1, 11), 2);
        CHECK.due("at the very COUNT", x.host(1, 1), x.host(0, 1));
        CHECK.due("LEFT tells that it left", x.host(1, 5), 0);

        // A block that was written is read, and replayed from the entry, not from the disk.
        Asm asm = new Asm().devices().addi(5, 0, 0x77).sw(5, 0, 0x200).addi(5, 0, 0x200).sw(5, 1, Asm.ADDRESS).addi(5, 0, 2).sw(5, 1, Asm.DISK);
        asm.lw(6, 1, Asm.DISK).branch(1, 6, 5, -4).sw(0, 0, 0x200).addi(7, 0, 1).sw(7, 1, Asm.DISK).jal(0, 0);
        x = asm.booted(2, 4, 4);
        x.run(0, 20);
        x.disk();
        pair(x, 1);
        x.run(0, 20);
        x.deliver();
        x.ack();
        CHECK.due("to be read", x.memory(0, 0x200), 0);
        CHECK.yes("read", x.disk());
        CHECK.due("read", x.memory(0, 0x200), 0x77);
        x.deliver();
        x.run(1, 100);
        CHECK.due("read at the BACKUP", x.memory(1, 0x200), 0x77);
    }

    private static void promise8DiskOfAFormerLife() {
        ReplayHosts x = Programs.diskOnce(2).booted(2, 4, 4);
        pair(x, 1);
        x.run(0, 50);
        x.deliver();
        x.ack();
        x.crash(0);
        CHECK.yes("its host is DEAD: done all the same", x.disk());
        CHECK.due("written", x.block(3, 0), 0x5A);
        CHECK.no("none waits", x.disk());

        x = Programs.diskOnce(2).booted(2, 4, 4);
        x.run(0, Programs.DISK_STEPS);
        pair(x, 1);
        x.crash(0);
        x.suspect(1);
        CHECK.due("once more: no output of its own", x.host(1, 4), 1);
        x.repair(0);
        pair(x, 0);
        x.crash(1);
        x.suspect(0);
        state("LIVE again", x, 0, LIVE);
        CHECK.due("BUSY", x.host(0, 11), 1);
        CHECK.yes("that of host 0's former life", x.disk());
        CHECK.due("nobody hears", x.host(0, 11), 1);
        CHECK.yes("that of host 1", x.disk());
        CHECK.due("nobody hears", x.host(0, 11), 1);
        CHECK.yes("that of host 0 now", x.disk());
        CHECK.due("DONE", x.host(0, 11), 2);
        CHECK.no("none waits", x.disk());
    }

    private static void promise8DiskWithoutRoom() {
        ReplayHosts x = Programs.diskOnce(2).booted(2, 4, 1);
        x.run(0, Programs.DISK_STEPS);
        pair(x, 1);
        x.tick();
        CHECK.no("no room", x.disk());
        CHECK.due("nothing is done", x.block(3, 0), 0);
        CHECK.due("BUSY", x.host(0, 11), 1);
        x.deliver();
        x.ack();
        CHECK.yes("room", x.disk());
        CHECK.due("done", x.block(3, 0), 0x5A);
        CHECK.due("an entry", x.host(0, 6), 1);
    }

    private static void promise9Deliver() {
        ReplayHosts x = Programs.echo().booted(3, 4, 4);
        CHECK.no("no BACKUP", x.deliver());
        x.key(1);
        CHECK.no("no BACKUP, no entry", x.deliver());
        pair(x, 1);
        CHECK.no("the CHANNEL is empty", x.deliver());
        x.key(1);
        x.key(2);
        CHECK.yes("deliver", x.deliver());
        CHECK.due("it came", x.host(1, 7), 1);
        CHECK.due("it is unacknowledged", x.host(0, 6), 2);
        x.crash(0);
        CHECK.yes("also when the LIVE one is DEAD", x.deliver());
        CHECK.due("it came", x.host(1, 7), 2);
        CHECK.no("no more", x.deliver());

        x = paired(Programs.echo(), 3, 4);
        x.key(1);
        x.key(2);
        x.crash(0);
        CHECK.yes("deliver", x.deliver());
        x.repair(0);
        CHECK.no("till that is SPARE", x.deliver());
        CHECK.due("what came came", x.host(1, 7), 1);

        x = paired(Programs.echo(), 3, 4);
        x.key(1);
        x.crash(1);
        CHECK.no("the BACKUP is DEAD", x.deliver());
        CHECK.due("its partner doesn't know", x.host(0, 6), 1);
        x.repair(1);
        CHECK.no("nor a SPARE one", x.deliver());

        x = paired(Programs.echo(), 3, 4);
        x.key(1);
        x.suspect(0);
        CHECK.no("the CHANNEL is gone", x.deliver());
        pair(x, 2);
        x.key(2);
        CHECK.yes("to the BACKUP that wasn't left", x.deliver());
        CHECK.due("to host 2", x.host(2, 7), 1);
        CHECK.due("not to host 1", x.host(1, 7), 0);
        x.key(3);
        x.crash(2);
        CHECK.no("not to the one that was left", x.deliver());
    }

    private static void promise10Ack() {
        ReplayHosts x = Programs.counting().booted(3, 4, 4);
        CHECK.no("none", x.ack());
        pair(x, 1);
        CHECK.no("none under way", x.ack());
        x.run(0, 8);
        CHECK.no("none under way", x.ack());
        x.deliver();
        CHECK.yes("ack", x.ack());
        CHECK.outside("in order", x, 1);
        CHECK.due("kept", x.host(0, 5), 1);
        CHECK.no("just one", x.ack());
        x.deliver();
        x.crash(1);
        CHECK.yes("also when the BACKUP is gone", x.ack());
        CHECK.outside("in order", x, 1, 2);

        x = paired(Programs.counting(), 3, 4);
        x.tick();
        x.run(0, 5);
        x.deliver();
        CHECK.yes("an event's", x.ack());
        CHECK.outside("nothing leaves by it", x);
        CHECK.due("unacknowledged", x.host(0, 6), 1);
        x.deliver();
        x.crash(0);
        CHECK.no("no host is LIVE with a BACKUP", x.ack());

        x = paired(Programs.counting(), 3, 4);
        x.run(0, 5);
        x.deliver();
        x.suspect(0);
        CHECK.no("what was under way is gone", x.ack());
        CHECK.outside("once", x, 1);
        x = paired(Programs.counting(), 3, 4);
        x.run(0, 5);
        x.deliver();
        x.suspect(1);
        CHECK.no("what was under way is gone", x.ack());
        CHECK.due("kept for ever", x.host(0, 5), 1);
    }

    private static void promise11SuspectOfABackup() {
        ReplayHosts x = Programs.counting().booted(3, 4, 4);
        CHECK.no("LIVE without a BACKUP", x.suspect(0));
        CHECK.no("SPARE", x.suspect(1));
        CHECK.no("no such host", x.suspect(3));
        CHECK.no("no such host", x.suspect(-1));
        x.protect(1);
        CHECK.no("RECEIVING", x.suspect(1));
        x.crash(1);
        CHECK.no("DEAD", x.suspect(1));
        pair(x, 2);
        CHECK.due("the pair's number", x.host(2, 14), 1);
        CHECK.due("the pair's number", x.host(0, 14), 1);
        x.run(0, 5);
        x.deliver();
        x.run(0, 3);
        x.run(2, 5);
        CHECK.due("kept", x.host(2, 5), 1);
        CHECK.yes("suspect", x.suspect(2));
        state("no entry left", x, 2, LIVE);
        CHECK.due("the MARK", x.block(8, 0), 1);
        CHECK.outside("what is kept leaves", x, 1);
        CHECK.no("the CHANNEL is gone", x.deliver());
        CHECK.no("LIVE without a BACKUP", x.suspect(2));
        x.run(2, 6);
        CHECK.outside("at once", x, 1, 2, 3);
        x.suspect(0);
        state("the former one", x, 0, HALTED);
        CHECK.no("HALTED", x.suspect(0));
        x.repair(0);
        pair(x, 0);
        CHECK.due("the next pair's number", x.host(0, 14), 2);
    }

    private static void promise11SuspectOfALiveOne() {
        ReplayHosts x = paired(Programs.counting(), 4, 4);
        x.run(0, 8);
        x.deliver();
        CHECK.yes("suspect", x.suspect(0));
        state("LIVE", x, 0, LIVE);
        CHECK.due("without a BACKUP", x.host(0, 14), 0);
        CHECK.due("none unacknowledged", x.host(0, 6), 0);
        CHECK.due("the MARK", x.block(8, -5), 1);
        CHECK.outside("all that is kept leaves", x, 1, 2);
        state("its BACKUP doesn't know", x, 1, BACKUP);
        CHECK.due("its BACKUP's pair", x.host(1, 14), 1);
        CHECK.due("it runs what came", x.run(1, 50), 3);
        pair(x, 2);
        CHECK.due("a pair's number", x.host(2, 14), 2);
        CHECK.yes("suspect", x.suspect(1));
        state("the MARK isn't less", x, 1, HALTED);
        CHECK.due("the MARK", x.block(8, 0), 1);
        state("the others", x, 0, LIVE);
        state("the others", x, 2, BACKUP);
        x.run(0, 3);
        CHECK.yes("the CHANNEL of the others", x.deliver());
        CHECK.yes("suspect", x.suspect(2));
        state("TAKING", x, 2, TAKING);
        CHECK.due("the MARK", x.block(8, 0), 2);
    }

    private static void promise11FormerLive() {
        ReplayHosts x = paired(Programs.counting(), 3, 2);
        x.run(0, 8);
        CHECK.yes("suspect", x.suspect(1));
        state("LIVE", x, 1, LIVE);
        state("the former one is LIVE yet", x, 0, LIVE);
        CHECK.due("as one with a BACKUP", x.host(0, 14), 1);
        CHECK.due("none unacknowledged at first", x.host(0, 6), 0);
        CHECK.due("kept", x.host(0, 5), 2);
        CHECK.due("two more, then STALLED", x.run(0, 100), 6);
        CHECK.due("unacknowledged", x.host(0, 6), 2);
        CHECK.due("kept", x.host(0, 5), 4);
        CHECK.no("never delivered", x.deliver());
        CHECK.no("never acknowledged", x.ack());
        CHECK.outside("never leaves", x);
        CHECK.no("two LIVE ones", x.protect(2));
        CHECK.yes("a key for the LIVE one", x.key(1));
        CHECK.due("not for the former one", x.host(0, 12), 0);
        CHECK.due("for the LIVE one", x.host(1, 12), 1);
        CHECK.yes("tick", x.tick());
        CHECK.yes("packet", x.packet(1, 0, 0, 0, 0));
        CHECK.due("not for the former one", x.host(0, 9) + x.host(0, 13), 0);
        x.crash(1);
        CHECK.no("none hears", x.key(1));
        CHECK.no("none hears", x.tick());
        CHECK.no("none hears", x.packet(1, 0, 0, 0, 0));
        x.repair(1);
        CHECK.no("the only LIVE one has a BACKUP, as it thinks", x.protect(1));
        x.suspect(0);
        state("the MARK isn't less", x, 0, HALTED);

        // A DISK comes to the former one, while it has room.
        x = Programs.diskOnce(2).booted(2, 4, 1);
        x.run(0, Programs.DISK_STEPS);
        pair(x, 1);
        x.suspect(1);
        CHECK.yes("the former one's", x.disk());
        CHECK.due("it hears", x.host(0, 11), 2);
        CHECK.due("an entry, unacknowledged for ever", x.host(0, 6), 1);
        CHECK.due("not the LIVE one", x.host(1, 11), 1);
        CHECK.yes("the LIVE one's", x.disk());
        CHECK.due("the LIVE one", x.host(1, 11), 2);
    }

    private static void promise11OperationOnceMore() {
        // Left, and the BACKUP knows: put out once more.
        ReplayHosts x = paired(Programs.diskOnce(2), 2, 4);
        x.run(0, 50);
        x.deliver();
        x.ack();
        x.tick();
        x.deliver();
        x.run(1, 100);
        CHECK.due("it went", x.host(1, 5), 0);
        x.crash(0);
        x.suspect(1);
        CHECK.yes("the former one's", x.disk());
        CHECK.due("BUSY", x.host(1, 11), 1);
        CHECK.yes("once more", x.disk());
        CHECK.due("DONE", x.host(1, 11), 2);
        CHECK.no("no more", x.disk());
        CHECK.due("with no number of its own", x.host(1, 4), 1);
        // Kept: it leaves, but not twice.
        x = paired(Programs.diskOnce(2), 2, 4);
        x.run(0, 50);
        x.deliver();
        x.run(1, 100);
        CHECK.due("kept", x.host(1, 5), 1);
        x.crash(0);
        x.suspect(1);
        CHECK.yes("what was kept", x.disk());
        CHECK.no("and no more", x.disk());
        // IDLE: nothing.
        x = paired(Programs.echo(), 2, 4);
        x.suspect(1);
        CHECK.no("nothing", x.disk());
    }

    private static void promise12Protect() {
        ReplayHosts x = new ReplayHosts(4, 4, 1);
        CHECK.no("none is LIVE", x.protect(1));
        x.boot();
        CHECK.no("LIVE itself", x.protect(0));
        CHECK.no("no such host", x.protect(4));
        CHECK.no("no such host", x.protect(-1));
        x.crash(3);
        CHECK.no("DEAD", x.protect(3));
        CHECK.yes("SPARE", x.protect(1));
        state("protect", x, 1, RECEIVING);
        CHECK.due("all PAGES", x.host(1, 8), 4);
        CHECK.no("another is RECEIVING", x.protect(2));
        CHECK.no("RECEIVING itself", x.protect(1));
        x.crash(1);
        CHECK.yes("none is RECEIVING any more", x.protect(2));
        for (int i = 0; i < 5; i++) {
            x.transfer();
        }
        state("transferred", x, 2, BACKUP);
        x.repair(1);
        CHECK.no("it has a BACKUP", x.protect(1));
        CHECK.no("a BACKUP itself", x.protect(2));
        x.crash(2);
        CHECK.no("it has one, as it thinks", x.protect(1));
        x.suspect(0);
        CHECK.yes("it has none", x.protect(1));
    }

    private static void promise13Transfer() {
        ReplayHosts x = Programs.echo().booted(2, 5, 3);
        CHECK.due("none is RECEIVING", x.transfer(), -1);
        x.run(0, 7);
        x.key(9);
        x.key(8);
        x.packet(3, 0x030201, 0, 0, 0);
        x.tick();
        x.protect(1);
        for (int page = 0; page < 5; page++) {
            CHECK.due("pages are to be sent", x.host(1, 8), 5 - page);
            CHECK.due("page", x.transfer(), page);
        }
        CHECK.due("no page is to be sent", x.host(1, 8), 0);
        CHECK.due("nothing is seen of it yet", x.host(1, 1), 0);
        CHECK.due("nothing is seen of it yet", x.memory(1, 0), -1);
        CHECK.due("all else", x.transfer(), 64);
        CHECK.due("none is RECEIVING", x.transfer(), -1);
        for (int what = 1; what < 72; what++) {
            CHECK.due("both have the same " + what, x.host(1, what), x.host(0, what));
        }
        for (int a = 0; a < 1280; a++) {
            CHECK.due("both have the same at " + a, x.memory(1, a), x.memory(0, a));
        }
        CHECK.due("keys wait", x.host(1, 12), 2);
        CHECK.due("a packet waits", x.host(1, 13), 1);
        CHECK.due("8 of a BACKUP", x.host(1, 8), 0);
    }

    private static void promise13Frame() {
        Asm asm = new Asm().devices();
        for (int device : new int[] {Asm.COMPARE, Asm.BLOCK, Asm.ADDRESS, Asm.LENGTH, Asm.FRAME}) {
            asm.addi(5, 0, 7 * device).sw(5, 1, device);
        }
        asm.addi(5, 0, 0);
        for (int device : new int[] {Asm.COMPARE, Asm.BLOCK, Asm.ADDRESS, Asm.LENGTH, Asm.FRAME}) {
            asm.lw(5 + device / 4, 1, device);
        }
        ReplayHosts x = asm.booted(2, 4, 4);
        x.run(0, 12);
        pair(x, 1);
        x.suspect(1);
        x.run(1, 5);
        for (int device : new int[] {Asm.COMPARE, Asm.BLOCK, Asm.ADDRESS, Asm.LENGTH, Asm.FRAME}) {
            CHECK.due("device " + device + " came", x.host(1, 32 + 5 + device / 4), 7 * device);
        }
    }

    private static void promise13Pages() {
        // Stores to pages 1 and 2 once it runs; receives a packet over pages 2 and 3; a block is read over 1 and 2.
        Asm asm = new Asm().devices().sw(1, 0, 0x104).store(0, 1, 0, 0x2FF).addi(2, 0, 0x2F0).sw(2, 1, Asm.RECEIVE);
        asm.addi(3, 0, 0x1E0).sw(3, 1, Asm.ADDRESS).addi(4, 0, 1).sw(4, 1, Asm.DISK).jal(0, 0);
        ReplayHosts x = asm.booted(2, 4, 8);
        x.protect(1);
        x.transfer();
        x.run(0, 2);
        CHECK.due("page 1 is to be sent already", x.host(1, 8), 3);
        CHECK.due("page 1", x.transfer(), 1);
        CHECK.due("page 2", x.transfer(), 2);
        x.run(0, 1);
        CHECK.due("page 2 once more", x.host(1, 8), 2);
        CHECK.due("page 2", x.transfer(), 2);
        CHECK.due("page 3", x.transfer(), 3);
        x.packet(32, -1, -1, -1, -1);
        CHECK.due("a packet that waits writes nothing", x.host(1, 8), 0);
        x.run(0, 2);
        CHECK.due("pages 2 and 3", x.host(1, 8), 2);
        CHECK.due("page 2", x.transfer(), 2);
        x.run(0, 5);
        CHECK.due("page 3 yet", x.host(1, 8), 1);
        x.disk();
        CHECK.due("an event wrote pages 1 and 2", x.host(1, 8), 3);
        CHECK.due("page 1", x.transfer(), 1);
        CHECK.due("8 were sent: no more steps", x.run(0, 1), 1);
        CHECK.due("page 2", x.transfer(), 2);
        CHECK.due("8 were sent: no more steps", x.run(0, 1), 0);
        CHECK.due("page 3", x.transfer(), 3);
        CHECK.due("all else", x.transfer(), 64);
        for (int a = 0; a < 1024; a++) {
            CHECK.due("both have the same at " + a, x.memory(1, a), x.memory(0, a));
        }
        CHECK.due("steps again", x.run(0, 1), 1);
    }

    private static void promise13Held() {
        // Writes page 0 for ever.
        Asm asm = new Asm().li(2, 0x800).csr(1, 0, Asm.ENABLED, 2).addi(5, 5, 1).store(0, 5, 0, 0x80).sleep().jal(0, -12);
        ReplayHosts x = asm.booted(3, 4, 2);
        x.key(1);
        x.run(0, 5);
        x.protect(1);
        int pages = 0;
        for (int i = 0; i < 8; i++) {
            CHECK.due("it runs yet", x.run(0, 4), 4);
            x.transfer();
            pages++;
        }
        CHECK.due("twice as many pages", pages, 8);
        long asleep = x.host(0, 3);
        CHECK.due("0 of run()", x.run(0, 100), 0);
        CHECK.due("nothing is looked at", x.host(0, 3), asleep);
        CHECK.yes("events still come", x.key(2));
        CHECK.yes("events still come", x.tick());
        CHECK.due("0 of run()", x.run(0, 100), 0);
        x.crash(1);
        CHECK.due("none is RECEIVING: it runs", x.run(0, 4), 4);
        x.protect(2);
        CHECK.due("counted anew", x.run(0, 4), 4);
        x.transfer();
        CHECK.due("counted anew", x.run(0, 4), 4);

        // Held while it sleeps, with cause to wake: it stays ASLEEP.
        asm = new Asm().li(2, 0x800).csr(1, 0, Asm.ENABLED, 2).addi(7, 0, 3).store(0, 7, 0, 0x80).addi(7, 7, -1).branch(1, 7, 0, -8).sleep();
        x = asm.booted(2, 4, 2);
        x.protect(1);
        for (int i = 0; i < 4; i++) {
            x.transfer();
        }
        x.run(0, 5);
        x.transfer();
        x.run(0, 3);
        x.transfer();
        x.run(0, 100);
        CHECK.due("ASLEEP", x.host(0, 3), 1);
        x.transfer();
        x.key(1);
        CHECK.due("7 were sent: it wakes", x.run(0, 1), 1);
    }

    private static void promise14Crash() {
        ReplayHosts x = new ReplayHosts(3, 4, 4);
        CHECK.no("no such host", x.crash(3));
        CHECK.no("no such host", x.crash(-1));
        CHECK.yes("SPARE", x.crash(2));
        CHECK.no("DEAD", x.crash(2));
        state("crash", x, 2, DEAD);
        x.repair(2);
        x.boot();
        x.protect(1);
        x.transfer();
        CHECK.yes("LIVE", x.crash(0));
        state("crash", x, 0, DEAD);
        state("the RECEIVING one", x, 1, SPARE);
        CHECK.due("none is RECEIVING", x.transfer(), -1);
        CHECK.due("of a DEAD one", x.host(0, 2), 0);
        CHECK.due("no MEMORY", x.memory(0, 0), -1);
        x = new ReplayHosts(3, 4, 4);
        x.boot();
        x.protect(1);
        CHECK.yes("RECEIVING", x.crash(1));
        state("crash", x, 1, DEAD);
        state("the LIVE one", x, 0, LIVE);
        x = paired(Programs.counting(), 3, 4);
        x.run(0, 5);
        CHECK.yes("LIVE with a BACKUP", x.crash(0));
        CHECK.outside("what was kept is gone", x);
        state("the BACKUP", x, 1, BACKUP);
        CHECK.yes("BACKUP", x.crash(1));
        state("crash", x, 1, DEAD);
    }

    private static void promise15Repair() {
        ReplayHosts x = paired(Programs.counting(), 3, 4);
        CHECK.no("no such host", x.repair(3));
        CHECK.no("no such host", x.repair(-1));
        CHECK.no("LIVE", x.repair(0));
        CHECK.no("BACKUP", x.repair(1));
        CHECK.no("SPARE", x.repair(2));
        x.crash(2);
        CHECK.yes("DEAD", x.repair(2));
        state("repair", x, 2, SPARE);
        x.suspect(0);
        x.suspect(1);
        state("suspect", x, 1, HALTED);
        CHECK.yes("HALTED", x.repair(1));
        state("repair", x, 1, SPARE);
        x.protect(1);
        CHECK.no("RECEIVING", x.repair(1));
        x.crash(1);
        x.repair(1);
        pair(x, 1);
        CHECK.due("it can be a BACKUP again", x.host(1, 14), 2);
        x.key(1);
        x.deliver();
        x.suspect(1);
        state("TAKING or LIVE", x, 1, TAKING);
        CHECK.no("TAKING", x.repair(1));
        // The repair of a host of an earlier pair touches no other pair's CHANNEL.
        x = paired(Programs.counting(), 3, 4);
        x.crash(0);
        x.suspect(1);
        pair(x, 2);
        x.tick();
        x.repair(0);
        CHECK.yes("the CHANNEL is there yet", x.deliver());
    }

    private static void promise16Host() {
        ReplayHosts x = paired(Programs.echo(), 4, 4);
        for (int what : new int[] {-1, 15, 31, 72, Integer.MIN_VALUE, Integer.MAX_VALUE}) {
            for (int h = 0; h < 4; h++) {
                CHECK.due("what " + what, x.host(h, what), -2);
            }
            CHECK.due("no such host", x.host(4, what), -1);
        }
        for (int h : new int[] {-1, 4, Integer.MIN_VALUE, Integer.MAX_VALUE}) {
            CHECK.due("no such host", x.host(h, 0), -1);
        }
        x.crash(3);
        for (int what = 1; what < 72; what++) {
            if (what < 15 || what > 31) {
                CHECK.due("SPARE, what " + what, x.host(2, what), 0);
                CHECK.due("DEAD, what " + what, x.host(3, what), 0);
            }
        }
        x.key(7);
        x.key(8);
        x.deliver();
        CHECK.due("6 of the LIVE one", x.host(0, 6), 2);
        CHECK.due("6 of the BACKUP", x.host(1, 6), 0);
        CHECK.due("7 of the LIVE one", x.host(0, 7), 0);
        CHECK.due("7 of the BACKUP", x.host(1, 7), 1);
        CHECK.due("8 of the LIVE one", x.host(0, 8), 0);
        CHECK.due("12 of the LIVE one", x.host(0, 12), 2);
        CHECK.due("12 of the BACKUP", x.host(1, 12), 0);
        x.run(0, 3);
        CHECK.due("COUNT", x.host(0, 1), 3);
        CHECK.due("PLACE", x.host(0, 2), 12);
        CHECK.due("register 1", x.host(0, 33), 65536);
        CHECK.due("register 5", x.host(0, 37), 7);
        CHECK.due("register 0", x.host(0, 32), 0);
        CHECK.due("PENDING", x.host(0, 71), 0x800);
    }

    private static void promise17Memory() {
        ReplayHosts x = new ReplayHosts(4, 4, 4);
        x.put(0, 0xF1L);
        x.put(1016, 0xFE00000000000000L);
        CHECK.due("SPARE", x.memory(0, 0), -1);
        x.boot();
        CHECK.due("the first byte", x.memory(0, 0), 0xF1);
        CHECK.due("the last byte", x.memory(0, 1023), 0xFE);
        CHECK.due("beyond", x.memory(0, 1024), -1);
        CHECK.due("below", x.memory(0, -1), -1);
        CHECK.due("below", x.memory(0, Integer.MIN_VALUE), -1);
        CHECK.due("beyond", x.memory(0, Integer.MAX_VALUE), -1);
        CHECK.due("no such host", x.memory(4, 0), -1);
        CHECK.due("no such host", x.memory(-1, 0), -1);
        x.protect(1);
        x.transfer();
        CHECK.due("RECEIVING", x.memory(1, 0), -1);
        for (int i = 0; i < 4; i++) {
            x.transfer();
        }
        CHECK.due("BACKUP", x.memory(1, 0), 0xF1);
        x.tick();
        x.deliver();
        x.suspect(1);
        state("an entry left", x, 1, TAKING);
        CHECK.due("TAKING", x.memory(1, 0), 0xF1);
        x.suspect(0);
        CHECK.due("HALTED", x.memory(0, 0), -1);
        x.crash(1);
        CHECK.due("DEAD", x.memory(1, 0), -1);
    }

    private static void promise18Block() {
        ReplayHosts x = Programs.diskOnce(2).booted(2, 4, 4);
        x.run(0, 50);
        x.disk();
        CHECK.due("byte 0", x.block(3, 0), 0x5A);
        CHECK.due("byte 1", x.block(3, 1), 0);
        CHECK.due("byte 63", x.block(3, 63), 0);
        CHECK.due("another block", x.block(2, 0), 0);
        CHECK.due("the last", x.block(7, 63), 0);
        CHECK.due("byte 64", x.block(3, 64), -1);
        CHECK.due("byte -1", x.block(3, -1), -1);
        CHECK.due("block -1", x.block(-1, 0), -1);
        CHECK.due("block 9", x.block(9, 0), -1);
        CHECK.due("block", x.block(Integer.MIN_VALUE, 0), -1);
        CHECK.due("block", x.block(Integer.MAX_VALUE, 0), -1);
        CHECK.due("byte", x.block(0, Integer.MAX_VALUE), -1);
        CHECK.due("the MARK with any k", x.block(8, Integer.MIN_VALUE), 0);
        pair(x, 1);
        x.suspect(0);
        CHECK.due("the MARK with any k", x.block(8, 99), 1);
    }

    private static void promise19Out() {
        ReplayHosts x = Programs.counting().booted(2, 4, 4);
        CHECK.due("none", x.out(0), -1);
        for (int i = 0; i < 7; i++) {
            x.run(0, 2000);
        }
        CHECK.due("outputs", x.host(0, 4), 4666);
        CHECK.due("the first", x.out(0), 1);
        CHECK.due("a byte", x.out(254), 255);
        CHECK.due("a byte", x.out(255), 0);
        CHECK.due("the last that is kept", x.out(4095), 4096 & 255);
        CHECK.due("none such", x.out(4096), -1);
        CHECK.due("none such", x.out(-1), -1);
        CHECK.due("none such", x.out(Integer.MIN_VALUE), -1);
        CHECK.due("none such", x.out(Integer.MAX_VALUE), -1);
    }

    /** Outputs are kept in places that are used again: many rounds of 32, the most that may be kept. */
    private static void manyOutputs() {
        ReplayHosts x = paired(Programs.counting(), 2, 32);
        int left = 0;
        for (int round = 0; round < 4; round++) {
            x.run(0, 2000);
            CHECK.due("32 are kept", x.host(0, 5), 32);
            for (int i = 0; i < 31; i++) {
                CHECK.yes("deliver", x.deliver());
                CHECK.yes("ack", x.ack());
                CHECK.due("in order", x.out(left), left + 1);
                left++;
                CHECK.due("and no more", x.out(left), -1);
            }
            x.run(1, 2000);
        }
        x.run(0, 2000);
        CHECK.due("the BACKUP keeps those that it doesn't know to have left", x.host(1, 5), 31);
        CHECK.yes("suspect", x.suspect(0));
        for (int i = 0; i < 156; i++) {
            CHECK.due("in order", x.out(i), i + 1 & 255);
        }
        CHECK.due("32 left at once", x.out(156), -1);

        x = paired(Programs.counting(), 2, 32);
        x.run(0, 2000);
        x.suspect(1);
        CHECK.due("a room's outputs more", x.run(0, 2000), 96);
        CHECK.due("the former one keeps them all", x.host(0, 5), 64);
        CHECK.due("unacknowledged", x.host(0, 6), 32);
        CHECK.due("outputs", x.host(0, 4), 64);
    }

    /** Operations wait in places that are used again. */
    private static void manyOperations() {
        Asm asm = new Asm().devices().addi(2, 0, 0x200).sw(2, 1, Asm.ADDRESS).addi(3, 0, 2).addi(5, 5, 1).sw(5, 0, 0x200);
        asm.sw(3, 1, Asm.DISK).lw(4, 1, Asm.DISK).branch(1, 4, 3, -4).jal(0, -20);
        ReplayHosts x = asm.booted(2, 4, 4);
        for (int i = 1; i <= 160; i++) {
            x.run(0, 12);
            CHECK.yes("disk", x.disk());
            CHECK.due("written", x.block(0, 0), i);
            CHECK.no("no more", x.disk());
        }
    }

    /** More entries may have come to a BACKUP than there is room for unacknowledged ones. */
    private static void manyEntries() {
        ReplayHosts x = paired(Programs.echo(), 2, 3);
        for (int i = 0; i < 150; i++) {
            CHECK.yes("tick", x.tick());
            CHECK.yes("deliver", x.deliver());
            CHECK.yes("ack", x.ack());
        }
        CHECK.due("all came", x.host(1, 7), 150);
        x.run(1, 1);
        CHECK.due("all are taken", x.host(1, 7), 0);
        CHECK.due("all are taken", x.host(1, 9), 150);
    }
}
