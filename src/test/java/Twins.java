import java.util.function.Supplier;

/** Tells whether a refused call changed anything: of two objects that are made alike, one gets it, and both are looked at. */
final class Twins {
    interface Call {
        long on(ReplayHosts x);
    }

    /** Looks at an object by a row of calls; the looks together see all, each within the 512 calls of an object. */
    private interface Look {
        long[] at(ReplayHosts x);
    }

    private static final int MOST = 420;

    private final Check check;

    Twins(Check check) {
        this.check = check;
    }

    /** The call answers what is due, and nothing happens. */
    void refused(String what, Supplier<ReplayHosts> made, Call call, long due) {
        Look[] looks = {Twins::hosts, x -> memory(x, 0), x -> memory(x, 1), Twins::disk, Twins::goOn, Twins::trouble};
        for (Look look : looks) {
            ReplayHosts x = made.get();
            ReplayHosts y = made.get();
            check.due(what, call.on(x), due);
            long[] got = look.at(x);
            long[] want = look.at(y);
            for (int i = 0; i < want.length; i++) {
                check.due(what + ": nothing happens, look " + i, got[i], want[i]);
            }
        }
    }

    private static long num(boolean b) {
        return b ? 1 : 0;
    }

    private static int hosts(ReplayHosts x, long[] seen, int from, int whats) {
        int n = from;
        for (int h = 0; h < 4; h++) {
            for (int what = 0; what < whats; what++) {
                seen[n++] = x.host(h, what < 15 ? what : what + 17);
            }
        }
        return n;
    }

    private static long[] hosts(ReplayHosts x) {
        long[] seen = new long[MOST];
        int n = hosts(x, seen, 0, 55);
        for (int i = 0; i < 100; i++) {
            seen[n++] = x.out(i);
        }
        return seen;
    }

    private static long[] memory(ReplayHosts x, int part) {
        long[] seen = new long[MOST];
        for (int i = 0; i < 200; i++) {
            seen[i] = x.memory(2 * part, 5 * i + i % 5);
            seen[200 + i] = x.memory(2 * part + 1, 5 * i + i % 5);
        }
        return seen;
    }

    private static long[] disk(ReplayHosts x) {
        long[] seen = new long[MOST];
        for (int i = 0; i < MOST - 1; i++) {
            seen[i] = x.block(i % 8, i / 8);
        }
        seen[MOST - 1] = x.block(8, 0);
        return seen;
    }

    /** What the hosts do next, without trouble. */
    private static long[] goOn(ReplayHosts x) {
        long[] seen = new long[MOST];
        int n = 0;
        for (int round = 0; round < 5; round++) {
            for (int h = 0; h < 4; h++) {
                seen[n++] = x.run(h, 7);
            }
            long[] some = {num(x.deliver()), num(x.disk()), num(x.key(round)), num(x.ack()), num(x.packet(3, round, 0, 0, 0)),
                num(x.tick()), x.transfer(), num(x.deliver())};
            System.arraycopy(some, 0, seen, n, some.length);
            n += some.length;
            n = hosts(x, seen, n, 15);
        }
        return seen;
    }

    /** What becomes of it when all suspect, crash, are repaired and protected. */
    private static long[] trouble(ReplayHosts x) {
        long[] seen = new long[MOST];
        int n = hosts(x, seen, 0, 1);
        for (int h = 3; h >= 0; h--) {
            seen[n++] = num(x.suspect(h));
            n = hosts(x, seen, n, 8);
        }
        for (int h = 0; h < 4; h++) {
            seen[n++] = num(x.disk());
            seen[n++] = num(x.repair(h));
            seen[n++] = num(x.protect(h));
        }
        for (int i = 0; i < 7; i++) {
            seen[n++] = x.transfer();
        }
        n = hosts(x, seen, n, 15);
        seen[n++] = num(x.boot());
        seen[n++] = x.block(8, 0);
        for (int h = 0; h < 4; h++) {
            seen[n++] = num(x.crash(h));
            seen[n++] = x.out(h);
        }
        return seen;
    }
}
