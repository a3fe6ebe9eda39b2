import java.util.function.Supplier;

/**
 * What each call answers in each situation that hosts can be in, and that a refused one changes nothing.
 * In a row of answers: 1 true (or one step), 0 false (or no step) and nothing happens, z no step but something happens,
 * - is -1 and nothing happens; a page that is sent is its number, * that all else was.
 */
public final class SituationsTest {
    private static final Check CHECK = new Check();
    private static final Twins TWINS = new Twins(CHECK);
    private static final int HOSTS = 4;
    private static final int ROOM = 4;
    private static final int[] NO_HOSTS = {-1, HOSTS, Integer.MIN_VALUE, Integer.MAX_VALUE};

    /** The calls that a row of answers tells, in its order. */
    private static final String[] NAMES = {"boot()", "key(65)", "packet(2)", "tick()", "disk()", "deliver()", "ack()", "transfer()"};

    public static void main(String[] args) {
        //        states   boot key packet tick disk deliver ack transfer, run, suspect, protect, crash, repair
        look("new", "0000", "1000000-", "0000", "0000", "0000", "1111", "0000", SituationsTest::fresh);
        look("all DEAD ahead of boot", "6666", "1000000-", "0000", "0000", "0000", "0000", "1111", SituationsTest::deadAtFirst);
        look("booted", "1000", "0111100-", "1000", "0000", "0111", "1111", "0000", SituationsTest::booted);
        look("RECEIVING", "1406", "01111001", "1000", "0000", "0000", "1110", "0001", SituationsTest::receiving);
        look("held", "1400", "01111003", "0000", "0000", "0000", "1111", "0000", SituationsTest::held);
        look("all pages sent", "1400", "0111100*", "1000", "0000", "0000", "1111", "0000", SituationsTest::allPagesSent);
        look("a pair", "1200", "0111100-", "1000", "1100", "0000", "1111", "0000", SituationsTest::pair);
        look("no room", "1200", "0000010-", "1000", "1100", "0000", "1111", "0000", SituationsTest::noRoom);
        look("STALLED", "1200", "0000010-", "0000", "1100", "0000", "1111", "0000", SituationsTest::stalled);
        look("all under way", "1200", "0000001-", "1z00", "1100", "0000", "1111", "0000", SituationsTest::allUnderWay);
        look("the LIVE one is DEAD", "6200", "0000110-", "0z00", "0100", "0000", "0111", "1000", SituationsTest::liveIsDead);
        look("and SPARE again", "0200", "0000100-", "0z00", "0100", "0000", "1111", "0000", SituationsTest::liveIsSpare);
        look("the BACKUP is DEAD", "1600", "0111101-", "1000", "1000", "0000", "1011", "0100", SituationsTest::backupIsDead);
        look("and SPARE again", "1000", "0111101-", "1000", "1000", "0000", "1111", "0000", SituationsTest::backupIsSpare);
        look("TAKING", "1300", "0000100-", "1100", "1000", "0000", "1111", "0000", SituationsTest::taking);
        look("TAKING alone", "6300", "0000100-", "0100", "0000", "0000", "0111", "1000", SituationsTest::takingAlone);
        look("two LIVE ones", "1100", "0111100-", "1100", "1000", "0000", "1111", "0000", SituationsTest::twoLive);
        look("the former LIVE one alone", "1600", "0000100-", "1000", "1000", "0000", "1011", "0100", SituationsTest::formerAlone);
        look("the former LIVE one HALTED", "5100", "0111100-", "0100", "0000", "0011", "1111", "1000", SituationsTest::formerHalted);
        look("a BACKUP that was left", "1200", "0111100-", "1z00", "0100", "0011", "1111", "0000", SituationsTest::left);
        look("and HALTED", "1500", "0111100-", "1000", "0000", "0011", "1111", "0100", SituationsTest::leftAndHalted);
        look("and another BACKUP", "1220", "0111110-", "1z00", "1110", "0000", "1111", "0000", SituationsTest::anotherBackup);
        look("a BACKUP that was left, alone", "6260", "0000100-", "0z00", "0100", "0000", "0101", "1010", SituationsTest::leftAlone);
        look("the new LIVE one and a RECEIVING one", "6140", "01111000", "0100", "0000", "0000", "0111", "1000", SituationsTest::newLiveAndReceiving);
        look("all DEAD", "6666", "0000100-", "0000", "0000", "0000", "0000", "1111", SituationsTest::allDead);
        CHECK.end();
    }

    private static ReplayHosts fresh() {
        ReplayHosts x = new ReplayHosts(HOSTS, 4, ROOM);
        Programs.worker().into(x);
        return x;
    }

    private static ReplayHosts deadAtFirst() {
        return allCrash(fresh());
    }

    private static ReplayHosts allCrash(ReplayHosts x) {
        for (int h = 0; h < HOSTS; h++) {
            x.crash(h);
        }
        return x;
    }

    /** The guest's operation waits at the shared disk; one number is at the OUTSIDE. */
    private static ReplayHosts booted() {
        ReplayHosts x = fresh();
        x.boot();
        x.run(0, Programs.WORKER_DISK_STEPS + 6);
        return x;
    }

    private static ReplayHosts receiving() {
        ReplayHosts x = booted();
        x.crash(3);
        x.protect(1);
        x.transfer();
        return x;
    }

    /** 8 pages were sent: 0, 1, and 2 six times, as the guest wrote it again and again. */
    private static ReplayHosts held() {
        ReplayHosts x = booted();
        x.protect(1);
        for (int i = 0; i < 8; i++) {
            x.transfer();
            x.run(0, 6);
        }
        return x;
    }

    private static ReplayHosts allPagesSent() {
        ReplayHosts x = booted();
        x.protect(1);
        for (int i = 0; i < 4; i++) {
            x.transfer();
        }
        return x;
    }

    private static ReplayHosts pair() {
        ReplayHosts x = booted();
        Programs.pair(x, 1);
        return x;
    }

    private static ReplayHosts ticked(ReplayHosts x, int ticks, int delivered) {
        for (int i = 0; i < ticks; i++) {
            x.tick();
        }
        for (int i = 0; i < delivered; i++) {
            x.deliver();
        }
        return x;
    }

    private static ReplayHosts noRoom() {
        return ticked(pair(), ROOM, 0);
    }

    private static ReplayHosts stalled() {
        ReplayHosts x = pair();
        x.run(0, 1);
        return ticked(x, ROOM, 0);
    }

    private static ReplayHosts allUnderWay() {
        return ticked(pair(), ROOM, ROOM);
    }

    private static ReplayHosts liveIsDead() {
        ReplayHosts x = ticked(pair(), 2, 1);
        x.crash(0);
        return x;
    }

    private static ReplayHosts liveIsSpare() {
        ReplayHosts x = liveIsDead();
        x.repair(0);
        return x;
    }

    private static ReplayHosts backupIsDead() {
        ReplayHosts x = ticked(pair(), 2, 1);
        x.crash(1);
        return x;
    }

    private static ReplayHosts backupIsSpare() {
        ReplayHosts x = backupIsDead();
        x.repair(1);
        return x;
    }

    private static ReplayHosts taking() {
        ReplayHosts x = ticked(pair(), 2, 1);
        x.suspect(1);
        return x;
    }

    private static ReplayHosts takingAlone() {
        ReplayHosts x = taking();
        x.crash(0);
        return x;
    }

    private static ReplayHosts twoLive() {
        ReplayHosts x = pair();
        x.suspect(1);
        return x;
    }

    private static ReplayHosts formerAlone() {
        ReplayHosts x = twoLive();
        x.crash(1);
        return x;
    }

    private static ReplayHosts formerHalted() {
        ReplayHosts x = twoLive();
        x.suspect(0);
        return x;
    }

    private static ReplayHosts left() {
        ReplayHosts x = ticked(pair(), 2, 1);
        x.suspect(0);
        return x;
    }

    private static ReplayHosts leftAndHalted() {
        ReplayHosts x = left();
        x.suspect(1);
        return x;
    }

    private static ReplayHosts anotherBackup() {
        ReplayHosts x = left();
        Programs.pair(x, 2);
        return ticked(x, 1, 0);
    }

    private static ReplayHosts leftAlone() {
        ReplayHosts x = anotherBackup();
        x.crash(0);
        x.crash(2);
        return x;
    }

    private static ReplayHosts newLiveAndReceiving() {
        ReplayHosts x = pair();
        x.crash(0);
        x.suspect(1);
        x.protect(2);
        return x;
    }

    private static ReplayHosts allDead() {
        return allCrash(booted());
    }

    /** The rows of answers behind the states: of the calls without a host, then run, suspect, protect, crash and repair of each. */
    private static void look(String what, String states, String row, String run, String suspect, String protect, String crash, String repair,
            Supplier<ReplayHosts> made) {
        for (int h = 0; h < HOSTS; h++) {
            CHECK.due(what + ": host(" + h + ", 0)", made.get().host(h, 0), states.charAt(h) - '0');
        }
        for (int i = 0; i < NAMES.length; i++) {
            int which = i;
            answers(what + ": " + NAMES[i], made, x -> plain(x, which), row.charAt(i));
        }
        for (int i = 0; i < HOSTS; i++) {
            int h = i;
            answers(what + ": run(" + h + ", 1)", made, x -> x.run(h, 1), run.charAt(h));
            answers(what + ": suspect(" + h + ")", made, x -> num(x.suspect(h)), suspect.charAt(h));
            answers(what + ": protect(" + h + ")", made, x -> num(x.protect(h)), protect.charAt(h));
            answers(what + ": crash(" + h + ")", made, x -> num(x.crash(h)), crash.charAt(h));
            answers(what + ": repair(" + h + ")", made, x -> num(x.repair(h)), repair.charAt(h));
            answers(what + ": run(" + h + ", 0)", made, x -> x.run(h, 0), '0');
            answers(what + ": run(" + h + ", -1)", made, x -> x.run(h, -1), '-');
            answers(what + ": run(" + h + ", 2001)", made, x -> x.run(h, 2001), '-');
        }
        noSuchHosts(what, made);
    }

    private static void noSuchHosts(String what, Supplier<ReplayHosts> made) {
        for (int h : NO_HOSTS) {
            answers(what + ": run(" + h + ", 1)", made, x -> x.run(h, 1), '-');
            answers(what + ": suspect(" + h + ")", made, x -> num(x.suspect(h)), '0');
            answers(what + ": protect(" + h + ")", made, x -> num(x.protect(h)), '0');
            answers(what + ": crash(" + h + ")", made, x -> num(x.crash(h)), '0');
            answers(what + ": repair(" + h + ")", made, x -> num(x.repair(h)), '0');
            CHECK.due(what + ": host(" + h + ", 0)", made.get().host(h, 0), -1);
            CHECK.due(what + ": memory(" + h + ", 0)", made.get().memory(h, 0), -1);
        }
        for (int n : new int[] {0, -1, 33, Integer.MIN_VALUE, Integer.MAX_VALUE}) {
            answers(what + ": packet(" + n + ")", made, x -> num(x.packet(n, 1, 2, 3, 4)), '0');
        }
    }

    private static long num(boolean b) {
        return b ? 1 : 0;
    }

    private static long plain(ReplayHosts x, int which) {
        switch (which) {
            case 0: return num(x.boot());
            case 1: return num(x.key(65));
            case 2: return num(x.packet(2, 0x4241, 0, 0, 0));
            case 3: return num(x.tick());
            case 4: return num(x.disk());
            case 5: return num(x.deliver());
            case 6: return num(x.ack());
            default: return x.transfer();
        }
    }

    private static void answers(String what, Supplier<ReplayHosts> made, Twins.Call call, char due) {
        boolean page = what.endsWith("transfer()");
        if (!page && due == '0') {
            TWINS.refused(what, made, call, 0);
        } else if (due == '-') {
            TWINS.refused(what, made, call, -1);
        } else {
            CHECK.due(what, call.on(made.get()), due == '*' ? 64 : due == 'z' ? 0 : due - '0');
        }
    }
}
