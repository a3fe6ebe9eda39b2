import java.util.Random;

/** Random runs of calls on random programs: every answer against PlainModel's. The seeds are fixed. */
public final class ModelTest {
    private static final Check CHECK = new Check();
    private static final int RUNS = 1500;
    private static final int CALLS = 512;
    private static final int[] REACHED = new int[7];

    public static void main(String[] args) {
        int first = args.length > 0 ? Integer.parseInt(args[0]) : 0;
        int runs = args.length > 1 ? Integer.parseInt(args[1]) : RUNS;
        for (int seed = first; seed < first + runs && CHECK.wrong() == 0; seed++) {
            new ModelTest(seed).play();
        }
        for (int state = 0; state < REACHED.length; state++) {
            CHECK.yes("some host was ever in state " + state, REACHED[state] > 0);
        }
        CHECK.end();
    }

    private final int seed;
    private final Random random;
    private final ReplayHosts x;
    private final PlainModel m;
    private final int hosts;
    private final int pages;
    private int calls = 0;
    private final int calm;
    private final boolean steady;

    private ModelTest(int seed) {
        this.seed = seed;
        random = new Random(seed);
        hosts = 2 + random.nextInt(3);
        pages = random.nextInt(4) == 0 ? 4 + random.nextInt(13) : 4;
        int room = random.nextInt(3) == 0 ? 1 + random.nextInt(32) : 1 + random.nextInt(6);
        calm = random.nextInt(4);
        steady = one(4);
        x = new ReplayHosts(hosts, pages, room);
        m = new PlainModel(hosts, pages, room);
    }

    private boolean one(int of) {
        return random.nextInt(of) == 0;
    }

    private int pick(int... from) {
        return from[random.nextInt(from.length)];
    }

    private void same(String call, long got, long want) {
        CHECK.due("run " + seed + ", call " + calls + ": " + call, got, want);
    }

    private static long num(boolean b) {
        return b ? 1 : 0;
    }

    private void play() {
        writeProgram();
        if (one(20)) {
            same("crash(0)", num(x.crash(0)), num(m.crash(0)));
        }
        same("boot()", num(x.boot()), num(m.boot()));
        while (calls < CALLS && CHECK.wrong() == 0) {
            calls++;
            call();
            look(calls % 32 == 0 || calls == CALLS);
        }
    }

    private void writeProgram() {
        Asm asm = new Asm();
        prologue(asm);
        int start = asm.here();
        int length = 4 + random.nextInt(24);
        for (int i = 0; i < length; i++) {
            instruction(asm);
        }
        asm.jal(0, start - asm.here());
        asm.at(0x180);
        int handler = 2 + random.nextInt(8);
        for (int i = 0; i < handler; i++) {
            handling(asm);
        }
        asm.back();
        int[] words = asm.words();
        for (int i = 0; i < words.length; i += 2) {
            long v = words[i] & 0xFFFFFFFFL | (i + 1 < words.length ? (long) words[i + 1] << 32 : 0);
            calls++;
            same("put", num(x.put(4 * i, v)), num(m.put(4 * i, v)));
        }
    }

    private void prologue(Asm asm) {
        asm.devices().li(2, one(8) ? random.nextInt(256 * pages) : 0x200 + 4 * random.nextInt(100)).addi(3, 0, 1).addi(4, 0, 2);
        asm.addi(5, 0, 0x180).csr(1, 0, Asm.VECTOR, 5);
        asm.li(5, pick(0, 0x80, 0x800, 0x880, 0x880)).csr(1, 0, Asm.ENABLED, 5);
        if (one(2)) {
            asm.csr(5, 0, Asm.STATUS, 8);
        }
        asm.addi(5, 0, one(8) ? random.nextInt(40) : 1 + random.nextInt(6)).sw(5, 1, Asm.LENGTH);
        asm.addi(5, 0, one(6) ? random.nextInt(9) : 0).sw(5, 1, Asm.BLOCK);
        asm.li(5, one(6) ? random.nextInt(256 * pages) : 0x200 + random.nextInt(0x1C0)).sw(5, 1, Asm.ADDRESS);
        asm.addi(5, 0, random.nextInt(6)).sw(5, 1, Asm.COMPARE);
    }

    private int some() {
        return one(20) ? random.nextInt(5) : 5 + random.nextInt(8);
    }

    private int source() {
        return one(3) ? random.nextInt(5) : some();
    }

    private void instruction(Asm asm) {
        switch (random.nextInt(30)) {
            case 0, 1, 2 -> asm.sw(source(), 1, Asm.CONSOLE);
            case 3, 4 -> asm.lw(some(), 1, Asm.KEY);
            case 5, 6 -> asm.sw(pick(0, 3, 4), 1, Asm.DISK);
            case 7 -> asm.sw(2, 1, Asm.SEND);
            case 8 -> asm.sw(2, 1, Asm.RECEIVE);
            case 9 -> asm.lw(some(), 1, 4 * random.nextInt(11));
            case 10 -> asm.sw(source(), 1, 4 * random.nextInt(12));
            case 11 -> asm.sleep();
            case 12, 13 -> asm.store(random.nextInt(3), source(), 2, random.nextInt(64));
            case 14, 15 -> asm.load(pick(0, 1, 2, 4, 5), some(), 2, random.nextInt(64));
            case 16 -> asm.branch(pick(0, 1, 4, 5, 6, 7), source(), source(), 4 * (1 + random.nextInt(4)));
            case 17 -> asm.csr(pick(1, 2, 3, 5, 6, 7), some(), pick(768, 772, 832, 833, 834, 835, 836, 3074, 3202), random.nextInt(32));
            case 18 -> asm.csr(pick(2, 3, 6, 7), some(), pick(768, 772, 773, 832, 833, 834, 835, 836, 3074, 3202), 0);
            case 19 -> asm.word(pick(115, 1048691, 15, 273678451, 807403635));
            case 20 -> asm.csr(6, 0, Asm.STATUS, 8);
            case 21 -> asm.word(one(3) ? random.nextInt() : random.nextInt() & ~127 | pick(55, 23, 3, 35, 19, 51, 15, 115, 103, 99));
            case 22, 23, 24 -> asm.number(19, random.nextInt(8), some(), source(), one(2) ? random.nextInt(32) : random.nextInt());
            case 25 -> asm.store(2, source(), 0, 4 * random.nextInt(256));
            default -> asm.register(pick(0, 0, 0, 32), random.nextInt(8), some(), source(), source());
        }
    }

    private void handling(Asm asm) {
        switch (random.nextInt(10)) {
            case 0, 1 -> asm.lw(6, 1, Asm.KEY);
            case 2 -> asm.sw(0, 1, Asm.DISK);
            case 3 -> asm.sw(2, 1, Asm.RECEIVE);
            case 4 -> asm.lw(7, 1, Asm.CLOCK).addi(7, 7, 2).sw(7, 1, Asm.COMPARE);
            case 5 -> asm.sw(6, 1, Asm.CONSOLE);
            case 6 -> asm.csr(2, 8, Asm.BACK, 0).addi(8, 8, 4).csr(1, 0, Asm.BACK, 8);
            case 7 -> asm.sw(pick(3, 4), 1, Asm.DISK);
            default -> instruction(asm);
        }
    }

    private int host() {
        return one(60) ? pick(-1, hosts, Integer.MIN_VALUE, Integer.MAX_VALUE) : random.nextInt(hosts);
    }

    private void call() {
        // Steady runs go far with one pair, so that rings of places are gone round.
        int kind = steady && m.hosts.get(1).state == PlainModel.State.BACKUP && !one(30) ? random.nextInt(62) : random.nextInt(100);
        if (kind < 30) {
            int h = host();
            int steps = one(40) ? pick(-1, 0, 2000, 2001, Integer.MAX_VALUE) : one(3) ? random.nextInt(100) : random.nextInt(12);
            same("run(" + h + ", " + steps + ")", x.run(h, steps), m.run(h, steps));
        } else if (kind < 62) {
            device(kind);
        } else if (kind < 80) {
            same("transfer()", x.transfer(), m.transfer());
        } else if (kind < 90) {
            int h = host();
            same("protect(" + h + ")", num(x.protect(h)), num(m.protect(h)));
        } else if (!one(1 + 4 * calm)) {
            same("tick()", num(x.tick()), num(m.tick()));
        } else {
            trouble(kind);
        }
    }

    private void device(int kind) {
        if (kind < 37) {
            int b = random.nextInt();
            same("key(" + b + ")", num(x.key(b)), num(m.key(b)));
        } else if (kind < 40) {
            int n = one(10) ? pick(0, -1, 33, 32, Integer.MIN_VALUE) : 1 + random.nextInt(32);
            long a = random.nextLong();
            long b = random.nextLong();
            long c = random.nextLong();
            long d = random.nextLong();
            same("packet(" + n + ")", num(x.packet(n, a, b, c, d)), num(m.packet(n, a, b, c, d)));
        } else if (kind < 42) {
            same("tick()", num(x.tick()), num(m.tick()));
        } else if (kind < 47) {
            same("disk()", num(x.disk()), num(m.disk()));
        } else if (kind < 55) {
            same("deliver()", num(x.deliver()), num(m.deliver()));
        } else {
            same("ack()", num(x.ack()), num(m.ack()));
        }
    }

    private void trouble(int kind) {
        int h = host();
        if (kind < 94) {
            same("suspect(" + h + ")", num(x.suspect(h)), num(m.suspect(h)));
        } else if (kind < 96) {
            // A crash of the last LIVE or BACKUP host ends all: seldom.
            boolean last = m.hosts.stream().filter(i -> i.state == PlainModel.State.LIVE || i.state == PlainModel.State.BACKUP).count() < 2;
            if (!last || one(20)) {
                same("crash(" + h + ")", num(x.crash(h)), num(m.crash(h)));
            }
        } else {
            same("repair(" + h + ")", num(x.repair(h)), num(m.repair(h)));
        }
    }

    private void look(boolean closely) {
        for (int h = 0; h < hosts; h++) {
            REACHED[m.hosts.get(h).state.ordinal()]++;
            for (int what = closely ? -2 : 0; what < (closely ? 74 : 15); what++) {
                same("host(" + h + ", " + what + ")", x.host(h, what), m.host(h, what));
            }
            int from = closely ? -2 : random.nextInt(256 * pages);
            int to = closely ? 256 * pages + 2 : from + 8;
            for (int a = from; a < to; a++) {
                same("memory(" + h + ", " + a + ")", x.memory(h, a), m.memory(h, a));
            }
        }
        same("block(8, 9)", x.block(8, 9), m.block(8, 9));
        int last = m.outside.size();
        for (int i = closely ? -1 : Math.max(0, last - 4); i <= last; i++) {
            same("out(" + i + ")", x.out(i), m.out(i));
        }
        for (int b = 0; closely && b < 8; b++) {
            for (int k = -1; k <= 64; k++) {
                same("block(" + b + ", " + k + ")", x.block(b, k), m.block(b, k));
            }
        }
    }
}
