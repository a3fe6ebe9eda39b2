import java.util.ArrayDeque;
import java.util.ArrayList;
import java.util.Arrays;
import java.util.Deque;
import java.util.List;
import java.util.TreeSet;
import java.util.stream.Collectors;

/** The hosts once more, written from the document alone, as plainly as it can be: slow, and wasteful. */
final class PlainModel {
    enum State { SPARE, LIVE, BACKUP, TAKING, RECEIVING, HALTED, DEAD }

    /** Kinds: 'k' KEY, 'p' PACKET, 't' TICK, 'd' DISK, 'o' OUT. */
    record Entry(char kind, long count, int left, int number, byte[] bytes) { }

    record Kept(int number, PlainGuest.Out what) { }

    record Waiting(PlainGuest.Out what, Host host, Object life) { }

    static final class Pair {
        final int number;
        final Host live;
        final Host backup;
        Deque<Entry> channel = new ArrayDeque<>();
        Deque<Entry> underWay = new ArrayDeque<>();
        boolean left = false;
        boolean taken = false;
        int unacknowledged = 0;

        Pair(int number, Host live, Host backup) {
            this.number = number;
            this.live = live;
            this.backup = backup;
        }

        void gone() {
            channel.clear();
            underWay.clear();
            unacknowledged = 0;
        }
    }

    static final class Host {
        State state = State.SPARE;
        PlainGuest guest;
        /** As one of them sees it: null when it is LIVE without a BACKUP. */
        Pair pair = null;
        Deque<Kept> kept = new ArrayDeque<>();
        Deque<Entry> came = new ArrayDeque<>();
        Object life = new Object();
        TreeSet<Integer> toSend = new TreeSet<>();
        int sent = 0;

        void end(State how) {
            state = how;
            life = new Object();
        }
    }

    final int pages;
    final int room;
    final List<Host> hosts = new ArrayList<>();
    final List<Pair> pairs = new ArrayList<>();
    final byte[] image;
    final byte[][] blocks = new byte[8][64];
    int mark = 0;
    boolean booted = false;
    final Deque<Waiting> waiting = new ArrayDeque<>();
    final List<Integer> outside = new ArrayList<>();

    PlainModel(int hosts, int pages, int room) {
        this.pages = pages < 4 ? 4 : pages > 16 ? 16 : pages;
        this.room = room < 1 ? 1 : room > 32 ? 32 : room;
        for (int i = 0; i < (hosts < 2 ? 2 : hosts > 4 ? 4 : hosts); i++) {
            this.hosts.add(new Host());
        }
        image = new byte[256 * this.pages];
    }

    private Host at(int host) {
        return host >= 0 && host < hosts.size() ? hosts.get(host) : null;
    }

    private List<Host> all(State state) {
        return hosts.stream().filter(h -> h.state == state).collect(Collectors.toList());
    }

    boolean put(int address, long v) {
        if (address < 0 || (long) address + 8 > image.length) {
            return false;
        }
        for (int i = 0; i < 8; i++) {
            image[address + i] = (byte) (v >> 8 * i);
        }
        return true;
    }

    boolean boot() {
        if (booted) {
            return false;
        }
        booted = true;
        hosts.get(0).state = State.LIVE;
        hosts.get(0).guest = new PlainGuest(pages);
        hosts.get(0).guest.memory = image.clone();
        return true;
    }

    private boolean hasRoom(Host h) {
        return h.pair == null || h.pair.unacknowledged < room;
    }

    private void log(Host h, char kind, int number, byte[] bytes) {
        if (h.pair != null) {
            h.pair.unacknowledged++;
            int left = h.guest.outputs - h.kept.size();
            h.pair.channel.add(new Entry(kind, h.guest.count, left, number, bytes));
        }
    }

    private void leave(Host h, PlainGuest.Out what) {
        if (what.kind() == 'd') {
            waiting.add(new Waiting(what, h, h.life));
            return;
        }
        if (what.kind() == 'p') {
            outside.add(256);
            outside.add(what.bytes().length);
        }
        for (byte b : what.bytes()) {
            outside.add(b & 255);
        }
    }

    private void allLeave(Host h) {
        while (!h.kept.isEmpty()) {
            leave(h, h.kept.removeFirst().what());
        }
    }

    private void event(PlainGuest g, char kind, int number, byte[] bytes) {
        switch (kind) {
            case 'k' -> g.keys.add(number);
            case 'p' -> g.packets.add(bytes);
            case 't' -> g.clock++;
            case 'd' -> g.diskDone(bytes);
            default -> { }
        }
    }

    private void liveIfNoneLeft(Host h) {
        if (h.state == State.TAKING && h.came.isEmpty()) {
            h.state = State.LIVE;
            h.pair = null;
            boolean operation = h.kept.stream().anyMatch(k -> k.what().kind() == 'd');
            allLeave(h);
            if (h.guest.disk == 1 && !operation) {
                leave(h, h.guest.operation);
            }
        }
    }

    int run(int host, int steps) {
        Host h = at(host);
        if (h == null || steps < 0 || steps > 2000) {
            return -1;
        }
        for (int made = 0; made < steps; made++) {
            if (h.state == State.BACKUP || h.state == State.TAKING) {
                while (h.state != State.LIVE && !h.came.isEmpty() && h.came.getFirst().count() == h.guest.count) {
                    Entry e = h.came.removeFirst();
                    event(h.guest, e.kind(), e.number(), e.bytes());
                    h.guest.written.clear();
                    h.kept.removeIf(k -> k.number() <= e.left());
                    liveIfNoneLeft(h);
                }
                if (h.state != State.LIVE && h.came.isEmpty()) {
                    return made;
                }
            } else if (h.state != State.LIVE) {
                return 0;
            }
            if (h.state == State.LIVE && all(State.RECEIVING).stream().anyMatch(r -> r.sent >= 2 * pages)) {
                return made;
            }
            if (!h.guest.wakes()) {
                return made;
            }
            if (h.state == State.LIVE && !hasRoom(h) && h.guest.storesOut()) {
                return made;
            }
            h.guest.step();
            noteWritten(h);
            PlainGuest.Out what = h.guest.output;
            if (what != null && h.state == State.LIVE && h.pair == null) {
                leave(h, what);
            } else if (what != null) {
                h.kept.add(new Kept(h.guest.outputs, what));
                if (h.state == State.LIVE) {
                    log(h, 'o', h.guest.outputs, null);
                }
            }
        }
        return steps;
    }

    private void noteWritten(Host h) {
        if (h.state == State.LIVE) {
            for (Host r : all(State.RECEIVING)) {
                r.toSend.addAll(h.guest.written);
            }
        }
        h.guest.written.clear();
    }

    private Host heard() {
        return all(State.LIVE).stream().filter(h -> h.pair == null || !h.pair.taken).findFirst().orElse(null);
    }

    private void comes(Host h, char kind, int number, byte[] bytes) {
        log(h, kind, number, bytes);
        event(h.guest, kind, number, bytes);
        noteWritten(h);
    }

    boolean key(int b) {
        Host h = heard();
        if (h == null || !hasRoom(h) || h.guest.keys.size() >= 16) {
            return false;
        }
        comes(h, 'k', b & 255, null);
        return true;
    }

    boolean packet(int n, long... words) {
        Host h = heard();
        if (h == null || !hasRoom(h) || n < 1 || n > 32 || h.guest.packets.size() >= 4) {
            return false;
        }
        byte[] bytes = new byte[n];
        for (int i = 0; i < n; i++) {
            bytes[i] = (byte) (words[i / 8] >> 8 * (i % 8));
        }
        comes(h, 'p', 0, bytes);
        return true;
    }

    boolean tick() {
        Host h = heard();
        if (h == null || !hasRoom(h)) {
            return false;
        }
        comes(h, 't', 0, null);
        return true;
    }

    boolean disk() {
        if (waiting.isEmpty()) {
            return false;
        }
        Waiting w = waiting.getFirst();
        boolean hears = w.host().state == State.LIVE && w.host().life == w.life() && w.host().guest.disk == 1;
        if (hears && !hasRoom(w.host())) {
            return false;
        }
        waiting.removeFirst();
        if (w.what().operation() == 2) {
            blocks[w.what().block()] = w.what().bytes().clone();
        }
        if (hears) {
            comes(w.host(), 'd', 0, blocks[w.what().block()].clone());
        }
        return true;
    }

    boolean deliver() {
        for (Pair p : pairs) {
            if (p.backup.state == State.BACKUP && p.backup.pair == p && !p.left && !p.channel.isEmpty()) {
                Entry e = p.channel.removeFirst();
                p.backup.came.add(e);
                p.underWay.add(e);
                return true;
            }
        }
        return false;
    }

    boolean ack() {
        for (Pair p : pairs) {
            if (p.live.state == State.LIVE && p.live.pair == p && !p.underWay.isEmpty()) {
                Entry e = p.underWay.removeFirst();
                p.unacknowledged--;
                if (e.kind() == 'o') {
                    while (!p.live.kept.isEmpty() && p.live.kept.getFirst().number() <= e.number()) {
                        leave(p.live, p.live.kept.removeFirst().what());
                    }
                }
                return true;
            }
        }
        return false;
    }

    boolean suspect(int host) {
        Host h = at(host);
        if (h == null || h.state != State.BACKUP && !(h.state == State.LIVE && h.pair != null)) {
            return false;
        }
        if (mark >= h.pair.number) {
            h.end(State.HALTED);
            return true;
        }
        mark = h.pair.number;
        h.pair.gone();
        if (h.state == State.BACKUP) {
            h.pair.taken = true;
            h.state = State.TAKING;
            liveIfNoneLeft(h);
        } else {
            h.pair.left = true;
            h.pair = null;
            allLeave(h);
        }
        return true;
    }

    boolean protect(int host) {
        Host h = at(host);
        List<Host> live = all(State.LIVE);
        if (h == null || h.state != State.SPARE || live.size() != 1 || live.get(0).pair != null || !all(State.RECEIVING).isEmpty()) {
            return false;
        }
        h.state = State.RECEIVING;
        h.guest = new PlainGuest(pages);
        h.kept.clear();
        h.came.clear();
        h.sent = 0;
        h.toSend.clear();
        for (int i = 0; i < pages; i++) {
            h.toSend.add(i);
        }
        return true;
    }

    int transfer() {
        if (all(State.RECEIVING).isEmpty()) {
            return -1;
        }
        Host to = all(State.RECEIVING).get(0);
        Host from = all(State.LIVE).get(0);
        if (!to.toSend.isEmpty()) {
            int page = to.toSend.pollFirst();
            to.guest.set(256 * page, Arrays.copyOfRange(from.guest.memory, 256 * page, 256 * page + 256));
            to.sent++;
            return page;
        }
        to.guest.takeAllElse(from.guest);
        to.guest.written.clear();
        int number = mark;
        for (Pair p : pairs) {
            number = Math.max(number, p.number);
        }
        Pair p = new Pair(number + 1, from, to);
        pairs.add(p);
        from.pair = p;
        to.pair = p;
        to.state = State.BACKUP;
        return 64;
    }

    boolean crash(int host) {
        Host h = at(host);
        if (h == null || h.state == State.DEAD) {
            return false;
        }
        if (h.state == State.LIVE) {
            all(State.RECEIVING).forEach(r -> r.state = State.SPARE);
        }
        h.end(State.DEAD);
        return true;
    }

    boolean repair(int host) {
        Host h = at(host);
        if (h == null || h.state != State.DEAD && h.state != State.HALTED) {
            return false;
        }
        h.state = State.SPARE;
        pairs.stream().filter(p -> p.live == h).forEach(Pair::gone);
        return true;
    }

    long host(int host, int what) {
        Host h = at(host);
        if (h == null) {
            return -1;
        }
        if (what < 0 || what > 71 || what >= 15 && what <= 31) {
            return -2;
        }
        State s = h.state;
        if (what == 0) {
            return s.ordinal();
        }
        if (what == 8) {
            return s == State.RECEIVING ? h.toSend.size() : 0;
        }
        if (s != State.LIVE && s != State.BACKUP && s != State.TAKING) {
            return 0;
        }
        PlainGuest g = h.guest;
        if (what >= 64) {
            return g.control(new int[] {768, 772, 773, 832, 833, 834, 835, 836}[what - 64]);
        }
        if (what >= 32) {
            return g.x[what - 32];
        }
        return switch (what) {
            case 1 -> g.count;
            case 2 -> g.place;
            case 3 -> g.asleep ? 1 : 0;
            case 4 -> g.outputs;
            case 5 -> h.kept.size();
            case 6 -> s == State.LIVE && h.pair != null ? h.pair.unacknowledged : 0;
            case 7 -> s != State.LIVE ? h.came.size() : 0;
            case 9 -> g.clock;
            case 10 -> g.plain.get(4);
            case 11 -> g.disk;
            case 12 -> g.keys.size();
            case 13 -> g.packets.size();
            default -> h.pair == null ? 0 : h.pair.number;
        };
    }

    int memory(int host, int address) {
        Host h = at(host);
        boolean has = h != null && (h.state == State.LIVE || h.state == State.BACKUP || h.state == State.TAKING);
        return has && address >= 0 && address < 256 * pages ? h.guest.memory[address] & 255 : -1;
    }

    int block(int block, int k) {
        return block == 8 ? mark : block >= 0 && block < 8 && k >= 0 && k < 64 ? blocks[block][k] & 255 : -1;
    }

    int out(int i) {
        return i >= 0 && i < Math.min(4096, outside.size()) ? outside.get(i) : -1;
    }
}
