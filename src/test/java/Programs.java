/** Guest programs that several tests run. */
final class Programs {
    private Programs() { }

    /** Reads keys for ever; a key that there is goes to the console. 3 steps a round without one, 4 with one. */
    static Asm echo() {
        return new Asm().devices().lw(5, 1, Asm.KEY).branch(4, 5, 0, -4).sw(5, 1, Asm.CONSOLE).jal(0, -12);
    }

    /** Puts out 1, 2, 3, .. : three steps each, behind one. */
    static Asm counting() {
        return new Asm().devices().addi(5, 5, 1).sw(5, 1, Asm.CONSOLE).jal(0, -8);
    }

    /** Steps of diskOnce() up to the one that puts the operation out. */
    static final int DISK_STEPS = 9;

    /** Has block 3 read to 0x200 (kind 1), or written from there (2), then goes round. */
    static Asm diskOnce(int kind) {
        Asm asm = new Asm().devices().addi(5, 0, 3).sw(5, 1, Asm.BLOCK).addi(6, 0, 0x200).sw(6, 1, Asm.ADDRESS);
        return asm.addi(7, 0, 0x5A).sw(7, 6, 0).addi(8, 0, kind).sw(8, 1, Asm.DISK).addi(9, 9, 1).jal(0, -4);
    }

    /** Steps of worker() up to the one that puts its operation out. */
    static final int WORKER_DISK_STEPS = 7;

    /** Writes block 3 once; then, six steps a round, counts to the console, takes keys and packets, writes page 2. */
    static Asm worker() {
        Asm asm = new Asm().devices().addi(6, 0, 0x200).sw(6, 1, Asm.ADDRESS).addi(7, 0, 3).sw(7, 1, Asm.BLOCK);
        asm.addi(8, 0, 2).sw(8, 1, Asm.DISK);
        return asm.addi(5, 5, 1).sw(5, 1, Asm.CONSOLE).lw(9, 1, Asm.KEY).sw(6, 1, Asm.RECEIVE).sw(5, 0, 0x240).jal(0, -20);
    }

    /** The LIVE guest gets a host as its BACKUP, with as few calls as it takes. */
    static void pair(ReplayHosts x, int backup) {
        if (!x.protect(backup)) {
            throw new IllegalStateException("host " + backup + " can't be RECEIVING");
        }
        for (int i = 0; i < 64; i++) {
            if (x.transfer() == 64) {
                return;
            }
        }
        throw new IllegalStateException("host " + backup + " is no BACKUP");
    }

    /** A booted object of 4 pages whose host 1 is host 0's BACKUP. */
    static ReplayHosts paired(Asm asm, int hosts, int room) {
        ReplayHosts x = asm.booted(hosts, 4, room);
        pair(x, 1);
        return x;
    }
}
