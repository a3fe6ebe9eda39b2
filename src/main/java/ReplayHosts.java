import java.util.Arrays;

/** Hosts that run one guest machine, so that it goes on when a host crashes (see DOC.md). */
public final class ReplayHosts {
    public static final int NONE = -1;

    private static final int SPARE = 0;
    private static final int LIVE = 1;
    private static final int BACKUP = 2;
    private static final int TAKING = 3;
    private static final int RECEIVING = 4;
    private static final int HALTED = 5;
    private static final int DEAD = 6;

    private static final int NO_HOST = -1;
    private static final int NO_QUESTION = -2;
    private static final int ALL_ELSE = 64;
    private static final int MOST_STEPS = 2000;
    private static final int PAGE_BYTES = 256;
    private static final int BLOCKS = 8;
    private static final int BLOCK_BYTES = 64;
    private static final int PACKET_BYTES = 32;
    private static final int PACKET_MARK = 256;
    private static final long UNSIGNED = 0xFFFFFFFFL;

    private final Host[] hosts;
    private final int pages;
    private final int room;
    private final byte[] image;
    private final SharedDisk sharedDisk;
    private final Outside outside;
    private final EntryQueue channel;
    private final EntryQueue underWay;
    private boolean booted;
    /** The pair that CHANNEL and acknowledgements belong to; no host's number once they are gone. */
    private int pairLive;
    private int pairBackup;
    private int lastPair;
    private int pagesSent;

    public ReplayHosts(int hosts, int pages, int room) {
        this.pages = within(pages, 4, 16);
        this.room = within(room, 1, 32);
        this.hosts = new Host[within(hosts, 2, 4)];
        for (int i = 0; i < this.hosts.length; i++) {
            this.hosts[i] = new Host(i, this.pages);
        }
        image = new byte[this.pages * PAGE_BYTES];
        sharedDisk = new SharedDisk();
        outside = new Outside();
        channel = new EntryQueue(this.room);
        underWay = new EntryQueue(this.room);
        pairLive = NONE;
        pairBackup = NONE;
    }

    public boolean put(int address, long v) {
        if (address < 0 || address > image.length - 8) {
            return false;
        }
        for (int i = 0; i < 8; i++) {
            image[address + i] = (byte) (v >>> (8 * i));
        }
        return true;
    }

    public boolean boot() {
        if (booted) {
            return false;
        }
        booted = true;
        Host first = hosts[0];
        first.state = LIVE;
        first.guest.memory.writeAll(image);
        return true;
    }

    public int run(int host, int steps) {
        Host h = hostAt(host);
        if (h == null || steps < 0 || steps > MOST_STEPS) {
            return NONE;
        }
        int made = 0;
        while (made < steps && advances(h)) {
            made++;
        }
        return made;
    }

    public boolean key(int b) {
        Host h = heardHost();
        if (h == null || !hasRoom(h) || h.guest.devices.waiting.keysFull()) {
            return false;
        }
        bring(h, new Entry(Entry.KEY, b & 255, null));
        return true;
    }

    public boolean packet(int n, long a, long b, long c, long d) {
        Host h = heardHost();
        if (h == null || n < 1 || n > PACKET_BYTES || !hasRoom(h) || h.guest.devices.waiting.packetsFull()) {
            return false;
        }
        byte[] bytes = new byte[n];
        for (int i = 0; i < n; i++) {
            long word = i < 8 ? a : i < 16 ? b : i < 24 ? c : d;
            bytes[i] = (byte) (word >>> (8 * (i & 7)));
        }
        bring(h, new Entry(Entry.PACKET, 0, bytes));
        return true;
    }

    public boolean tick() {
        Host h = heardHost();
        if (h == null || !hasRoom(h)) {
            return false;
        }
        bring(h, new Entry(Entry.TICK, 0, null));
        return true;
    }

    public boolean disk() {
        Operation oldest = sharedDisk.oldest();
        if (oldest == null) {
            return false;
        }
        Host owner = hostAt(oldest.host);
        boolean hears = owner != null && owner.state == LIVE && owner.life == oldest.life
            && owner.guest.devices.diskState == Devices.BUSY;
        if (hears && !hasRoom(owner)) {
            return false;
        }
        byte[] read = sharedDisk.carryOutOldest();
        if (hears) {
            bring(owner, new Entry(Entry.DISK, 0, read));
        }
        return true;
    }

    public boolean deliver() {
        Host to = hostAt(pairBackup);
        if (to == null || to.state != BACKUP || to.inbox.isFull()) {
            return false;
        }
        Entry oldest = channel.removeOldest();
        if (oldest == null) {
            return false;
        }
        to.inbox.append(oldest);
        underWay.append(oldest);
        return true;
    }

    public boolean ack() {
        Host live = hostAt(pairLive);
        if (live == null || live.state != LIVE || !live.hasBackup) {
            return false;
        }
        Entry oldest = underWay.removeOldest();
        if (oldest == null) {
            return false;
        }
        live.unacknowledged--;
        Output output = live.oldestKept();
        if (oldest.kind == Entry.OUT && output != null) {
            leave(live, output);
            live.dropKept(1);
        }
        return true;
    }

    public boolean suspect(int host) {
        Host h = hostAt(host);
        if (h == null || !(h.state == BACKUP || h.state == LIVE && h.hasBackup)) {
            return false;
        }
        if (!sharedDisk.testAndSet(h.pair)) {
            h.stop(HALTED);
        } else if (h.state == BACKUP) {
            takeOver(h);
        } else {
            forgetPair();
            h.leavePair();
            leaveAll(h);
        }
        return true;
    }

    public boolean protect(int host) {
        Host h = hostAt(host);
        Host live = onlyLive();
        if (h == null || h.state != SPARE || live == null || live.hasBackup || receiving() != null) {
            return false;
        }
        h.state = RECEIVING;
        live.guest.memory.allToSend();
        pagesSent = 0;
        return true;
    }

    public int transfer() {
        Host to = receiving();
        Host from = onlyLive();
        if (to == null || from == null) {
            return NONE;
        }
        int page = from.guest.memory.leastToSend();
        if (page == NONE) {
            makePair(from, to);
            return ALL_ELSE;
        }
        from.guest.memory.sendPage(page, to.guest.memory);
        pagesSent++;
        return page;
    }

    public boolean crash(int host) {
        Host h = hostAt(host);
        if (h == null || h.state == DEAD) {
            return false;
        }
        Host to = receiving();
        if (h.state == LIVE && to != null) {
            to.state = SPARE;
        }
        h.stop(DEAD);
        return true;
    }

    public boolean repair(int host) {
        Host h = hostAt(host);
        if (h == null || h.state != DEAD && h.state != HALTED) {
            return false;
        }
        h.state = SPARE;
        if (pairLive == host) {
            forgetPair();
        }
        return true;
    }

    public long host(int host, int what) {
        Host h = hostAt(host);
        if (h == null) {
            return NO_HOST;
        }
        if (what < 0 || what > 14 && what < 32 || what > 71) {
            return NO_QUESTION;
        }
        if (what == 0) {
            return h.state;
        }
        if (what == 8) {
            return pagesToSend(h);
        }
        if (!h.hasGuest()) {
            return 0;
        }
        return what >= 5 && what <= 7 || what == 14 ? h.answer(what) : h.guest.answer(what);
    }

    public int memory(int host, int address) {
        Host h = hostAt(host);
        if (h == null || !h.hasGuest() || !h.guest.memory.holds(address, 1)) {
            return NONE;
        }
        return h.guest.memory.byteAt(address);
    }

    public int block(int block, int k) {
        if (block == BLOCKS) {
            return sharedDisk.mark;
        }
        if (block < 0 || block > BLOCKS || k < 0 || k >= BLOCK_BYTES) {
            return NONE;
        }
        return sharedDisk.blocks[block * BLOCK_BYTES + k] & 255;
    }

    public int out(int i) {
        return outside.at(i);
    }

    private static int within(int n, int least, int greatest) {
        return Math.max(least, Math.min(greatest, n));
    }

    private Host hostAt(int index) {
        return index < 0 || index >= hosts.length ? null : hosts[index];
    }

    /** The host whose guest hears from outside: a former LIVE one, though it still runs, does not. */
    private Host heardHost() {
        for (int i = 0; i < hosts.length; i++) {
            if (hosts[i].state == LIVE && !hosts[i].overtaken) {
                return hosts[i];
            }
        }
        return null;
    }

    private Host onlyLive() {
        Host found = null;
        for (int i = 0; i < hosts.length; i++) {
            if (hosts[i].state == LIVE) {
                if (found != null) {
                    return null;
                }
                found = hosts[i];
            }
        }
        return found;
    }

    private Host receiving() {
        for (int i = 0; i < hosts.length; i++) {
            if (hosts[i].state == RECEIVING) {
                return hosts[i];
            }
        }
        return null;
    }

    private int pagesToSend(Host h) {
        Host live = onlyLive();
        return h.state == RECEIVING && live != null ? live.guest.memory.countToSend() : 0;
    }

    private boolean hasRoom(Host h) {
        return !h.hasBackup || h.unacknowledged < room;
    }

    private void bring(Host h, Entry event) {
        event.count = h.guest.count;
        event.left = h.left();
        h.guest.receive(event);
        if (h.hasBackup) {
            intoChannel(h, event);
        }
    }

    private void intoChannel(Host h, Entry entry) {
        h.unacknowledged++;
        if (!h.overtaken) {
            channel.append(entry);
        }
    }

    /** One step of a host's guest, and what comes ahead of it; false if the step isn't made. */
    private boolean advances(Host h) {
        if (h.state == BACKUP || h.state == TAKING) {
            takeEntries(h);
            goLiveIfAllIsTaken(h);
        }
        if (!mayStep(h) || !h.guest.isAwake() || !hasRoom(h) && h.guest.wouldPutOut()) {
            return false;
        }
        h.guest.makeStep();
        if (h.guest.devices.output.kind != Output.NOTHING) {
            h.guest.outputs++;
            handOn(h, h.guest.devices.output);
        }
        return true;
    }

    private boolean mayStep(Host h) {
        if (h.state == LIVE) {
            return pagesSent < 2 * pages || receiving() == null;
        }
        return (h.state == BACKUP || h.state == TAKING) && !h.inbox.isEmpty();
    }

    private void handOn(Host h, Output output) {
        if (h.state == LIVE && !h.hasBackup) {
            leave(h, output);
            return;
        }
        h.keep(output);
        if (h.state == LIVE) {
            Entry entry = new Entry(Entry.OUT, 0, null);
            entry.count = h.guest.count;
            entry.left = h.left();
            intoChannel(h, entry);
        }
    }

    private void takeEntries(Host h) {
        for (int most = h.inbox.size; most > 0; most--) {
            Entry oldest = h.inbox.oldest();
            if (oldest == null || oldest.count != h.guest.count) {
                return;
            }
            h.inbox.removeOldest();
            h.guest.receive(oldest);
            h.dropKept(oldest.left - h.left());
        }
    }

    private void takeOver(Host h) {
        Host former = hostAt(pairLive);
        if (former != null && former.state == LIVE) {
            former.overtaken = true;
            former.unacknowledged = 0;
        }
        forgetPair();
        h.state = TAKING;
        goLiveIfAllIsTaken(h);
    }

    private void goLiveIfAllIsTaken(Host h) {
        if (h.state != TAKING || !h.inbox.isEmpty()) {
            return;
        }
        h.state = LIVE;
        h.leavePair();
        boolean kept = h.keepsOperation();
        leaveAll(h);
        if (!kept && h.guest.devices.diskState == Devices.BUSY) {
            sharedDisk.append(h.guest.devices.operation, h.index, h.life);
        }
    }

    private void leaveAll(Host h) {
        for (int i = 0; i < h.keptCount; i++) {
            leave(h, h.keptAt(i));
        }
        h.dropKept(h.keptCount);
    }

    private void leave(Host h, Output output) {
        if (output.kind == Output.OPERATION) {
            // A guest has at most one operation that isn't done, so the kept one is its DISK's.
            sharedDisk.append(h.guest.devices.operation, h.index, h.life);
            return;
        }
        if (output.kind == Output.PACKET) {
            outside.append(PACKET_MARK);
            outside.append(output.length);
        }
        for (int i = 0; i < output.length; i++) {
            outside.append(output.bytes[i] & 255);
        }
    }

    private void makePair(Host live, Host backup) {
        forgetPair();
        lastPair = Math.max(lastPair, sharedDisk.mark) + 1;
        pairLive = live.index;
        pairBackup = backup.index;
        live.hasBackup = true;
        live.pair = lastPair;
        backup.guest.copyAllElse(live.guest);
        backup.pair = lastPair;
        backup.state = BACKUP;
    }

    private void forgetPair() {
        channel.empty();
        underWay.empty();
        pairLive = NONE;
        pairBackup = NONE;
    }

    /** What a host is, and its side of the log. */
    private static final class Host {
        /** A former LIVE one keeps what it kept (the ROOM at most) and a ROOM's outputs more: 64. */
        static final int KEPT_MASK = 63;
        static final int MOST_CALLS = 512;

        final int index;
        final Guest guest;
        final EntryQueue inbox;
        final Output[] kept;
        int state;
        int keptFrom;
        int keptCount;
        int pair;
        int unacknowledged;
        boolean hasBackup;
        boolean overtaken;
        /** Tells operations that were put out before a crash or halt from those behind it. */
        int life;

        Host(int index, int pages) {
            this.index = index;
            guest = new Guest(pages);
            inbox = new EntryQueue(MOST_CALLS);
            kept = new Output[KEPT_MASK + 1];
            for (int i = 0; i < kept.length; i++) {
                kept[i] = new Output();
            }
        }

        boolean hasGuest() {
            return state == LIVE || state == BACKUP || state == TAKING;
        }

        void leavePair() {
            hasBackup = false;
            overtaken = false;
            unacknowledged = 0;
            pair = 0;
        }

        void stop(int newState) {
            state = newState;
            life++;
            leavePair();
            inbox.empty();
            dropKept(keptCount);
        }

        int left() {
            return guest.outputs - keptCount;
        }

        void keep(Output output) {
            if (keptCount <= KEPT_MASK) {
                keptAt(keptCount).copyFrom(output);
                keptCount++;
            }
        }

        Output keptAt(int i) {
            return kept[(keptFrom + i) & KEPT_MASK];
        }

        Output oldestKept() {
            return keptCount > 0 ? keptAt(0) : null;
        }

        void dropKept(int howMany) {
            int gone = within(howMany, 0, keptCount);
            keptFrom = (keptFrom + gone) & KEPT_MASK;
            keptCount -= gone;
        }

        boolean keepsOperation() {
            for (int i = 0; i < keptCount; i++) {
                if (keptAt(i).kind == Output.OPERATION) {
                    return true;
                }
            }
            return false;
        }

        int answer(int what) {
            switch (what) {
                case 5: return keptCount;
                case 6: return unacknowledged;
                case 7: return inbox.size;
                default: return pair;
            }
        }
    }

    /** An entry of the LOG: an event, or that an output was put out. */
    private static final class Entry {
        static final int OUT = 0;
        static final int KEY = 1;
        static final int PACKET = 2;
        static final int TICK = 3;
        static final int DISK = 4;

        final int kind;
        final int value;
        final byte[] bytes;
        long count;
        int left;

        Entry(int kind, int value, byte[] bytes) {
            this.kind = kind;
            this.value = value;
            this.bytes = bytes;
        }
    }

    /** Entries, the oldest first; one more than there are places for is not taken. */
    private static final class EntryQueue {
        final Entry[] places;
        int from;
        int size;

        EntryQueue(int most) {
            places = new Entry[Math.max(1, most)];
        }

        boolean isEmpty() {
            return size == 0;
        }

        boolean isFull() {
            return size == places.length;
        }

        void empty() {
            from = 0;
            size = 0;
        }

        void append(Entry entry) {
            if (!isFull()) {
                places[wrapped(from + size)] = entry;
                size++;
            }
        }

        Entry oldest() {
            return isEmpty() ? null : places[from];
        }

        Entry removeOldest() {
            Entry oldest = oldest();
            if (oldest != null) {
                from = wrapped(from + 1);
                size--;
            }
            return oldest;
        }

        int wrapped(int place) {
            return place < places.length ? place : place - places.length;
        }
    }

    /** What a guest put out; of an operation the guest's DISK has the rest. */
    private static final class Output {
        static final int NOTHING = 0;
        static final int BYTE = 1;
        static final int PACKET = 2;
        static final int OPERATION = 3;

        final byte[] bytes;
        int kind;
        int length;

        Output() {
            bytes = new byte[PACKET_BYTES];
        }

        void copyFrom(Output other) {
            kind = other.kind;
            length = other.length;
            System.arraycopy(other.bytes, 0, bytes, 0, bytes.length);
        }
    }

    /** The numbers that came to the OUTSIDE. */
    private static final class Outside {
        static final int MOST = 4096;

        final int[] numbers;
        int size;

        Outside() {
            numbers = new int[MOST];
        }

        void append(int number) {
            if (size < MOST) {
                numbers[size] = number;
                size++;
            }
        }

        int at(int i) {
            return i < 0 || i >= size ? NONE : numbers[i];
        }
    }

    /** An operation on a block: a guest's DISK has one, the shared disk those that wait. */
    private static final class Operation {
        static final int READ = 1;
        static final int WRITE = 2;

        final byte[] bytes;
        int kind;
        int block;
        int address;
        int host;
        int life;

        Operation() {
            bytes = new byte[BLOCK_BYTES];
        }

        void copyFrom(Operation other) {
            kind = other.kind;
            block = other.block;
            address = other.address;
            System.arraycopy(other.bytes, 0, bytes, 0, bytes.length);
        }
    }

    /** The disk that all hosts share: blocks, the MARK and the operations that wait. */
    private static final class SharedDisk {
        /** One waits for each life of a LIVE host, and a life takes more than four of the 512 calls. */
        static final int WAITING_MASK = 127;

        final byte[] blocks;
        final Operation[] waiting;
        int from;
        int size;
        int mark;

        SharedDisk() {
            blocks = new byte[BLOCKS * BLOCK_BYTES];
            waiting = new Operation[WAITING_MASK + 1];
            for (int i = 0; i < waiting.length; i++) {
                waiting[i] = new Operation();
            }
        }

        boolean testAndSet(int number) {
            if (mark >= number) {
                return false;
            }
            mark = number;
            return true;
        }

        void append(Operation operation, int host, int life) {
            if (size > WAITING_MASK) {
                return;
            }
            Operation place = waiting[(from + size) & WAITING_MASK];
            place.copyFrom(operation);
            place.host = host;
            place.life = life;
            size++;
        }

        Operation oldest() {
            return size > 0 ? waiting[from] : null;
        }

        /** The bytes that were read; null of a write. */
        byte[] carryOutOldest() {
            Operation operation = oldest();
            if (operation == null) {
                return null;
            }
            from = (from + 1) & WAITING_MASK;
            size--;
            int start = (operation.block & (BLOCKS - 1)) * BLOCK_BYTES;
            if (operation.kind == Operation.READ) {
                return Arrays.copyOfRange(blocks, start, start + BLOCK_BYTES);
            }
            System.arraycopy(operation.bytes, 0, blocks, start, BLOCK_BYTES);
            return null;
        }
    }

    /** A guest's MEMORY, and which of its pages are to be sent. */
    private static final class Memory {
        final byte[] bytes;
        final boolean[] toSend;

        Memory(int pages) {
            bytes = new byte[pages * PAGE_BYTES];
            toSend = new boolean[pages];
        }

        boolean holds(int address, int length) {
            return (address & UNSIGNED) + length <= bytes.length;
        }

        // Of these, whoever calls has asked holds() first.

        int byteAt(int address) {
            return bytes[address] & 255;
        }

        int halfAt(int address) {
            return bytes[address] & 255 | (bytes[address + 1] & 255) << 8;
        }

        int wordAt(int address) {
            return bytes[address] & 255 | (bytes[address + 1] & 255) << 8
                | (bytes[address + 2] & 255) << 16 | bytes[address + 3] << 24;
        }

        void write(int address, int size, int v) {
            for (int i = 0; i < size; i++) {
                bytes[address + i] = (byte) (v >>> (8 * i));
                toSend[(address + i) / PAGE_BYTES] = true;
            }
        }

        void writeBytes(int address, byte[] source, int from, int length) {
            for (int i = 0; i < length; i++) {
                bytes[address + i] = source[from + i];
                toSend[(address + i) / PAGE_BYTES] = true;
            }
        }

        void writeAll(byte[] source) {
            System.arraycopy(source, 0, bytes, 0, Math.min(source.length, bytes.length));
        }

        void allToSend() {
            for (int i = 0; i < toSend.length; i++) {
                toSend[i] = true;
            }
        }

        int leastToSend() {
            for (int i = 0; i < toSend.length; i++) {
                if (toSend[i]) {
                    return i;
                }
            }
            return NONE;
        }

        int countToSend() {
            int count = 0;
            for (int i = 0; i < toSend.length; i++) {
                count += toSend[i] ? 1 : 0;
            }
            return count;
        }

        void sendPage(int page, Memory to) {
            System.arraycopy(bytes, page * PAGE_BYTES, to.bytes, page * PAGE_BYTES, PAGE_BYTES);
            toSend[page] = false;
        }
    }

    /** The keys and packets that wait at a guest's DEVICES, the oldest first. */
    private static final class Waiting {
        static final int KEY_MASK = 15;
        static final int PACKET_MASK = 3;

        final int[] keys;
        final int[] lengths;
        final byte[] packetBytes;
        int keyFrom;
        int keyCount;
        int packetFrom;
        int packetCount;

        Waiting() {
            keys = new int[KEY_MASK + 1];
            lengths = new int[PACKET_MASK + 1];
            packetBytes = new byte[(PACKET_MASK + 1) * PACKET_BYTES];
        }

        boolean keysFull() {
            return keyCount > KEY_MASK;
        }

        boolean packetsFull() {
            return packetCount > PACKET_MASK;
        }

        void appendKey(int b) {
            if (!keysFull()) {
                keys[(keyFrom + keyCount) & KEY_MASK] = b;
                keyCount++;
            }
        }

        int takeKey() {
            if (keyCount == 0) {
                return NONE;
            }
            int oldest = keys[keyFrom];
            keyFrom = (keyFrom + 1) & KEY_MASK;
            keyCount--;
            return oldest;
        }

        void appendPacket(byte[] bytes) {
            if (packetsFull() || bytes == null || bytes.length > PACKET_BYTES) {
                return;
            }
            int place = (packetFrom + packetCount) & PACKET_MASK;
            lengths[place] = bytes.length;
            System.arraycopy(bytes, 0, packetBytes, place * PACKET_BYTES, bytes.length);
            packetCount++;
        }

        int packetLength() {
            return packetCount == 0 ? 0 : lengths[packetFrom];
        }

        int packetStart() {
            return packetFrom * PACKET_BYTES;
        }

        void dropPacket() {
            if (packetCount > 0) {
                packetFrom = (packetFrom + 1) & PACKET_MASK;
                packetCount--;
            }
        }

        void copyFrom(Waiting other) {
            System.arraycopy(other.keys, 0, keys, 0, keys.length);
            System.arraycopy(other.lengths, 0, lengths, 0, lengths.length);
            System.arraycopy(other.packetBytes, 0, packetBytes, 0, packetBytes.length);
            keyFrom = other.keyFrom;
            keyCount = other.keyCount;
            packetFrom = other.packetFrom;
            packetCount = other.packetCount;
        }
    }

    /** A guest's DEVICES. */
    private static final class Devices {
        static final int START = 65536;
        static final int CLOCK = 0;
        static final int COMPARE = 4;
        static final int KEY = 8;
        static final int CONSOLE = 12;
        static final int BLOCK = 16;
        static final int ADDRESS = 20;
        static final int DISK = 24;
        static final int LENGTH = 28;
        static final int SEND = 32;
        static final int RECEIVE = 36;
        static final int FRAME = 40;

        static final int IDLE = 0;
        static final int BUSY = 1;
        static final int DONE = 2;

        final Memory memory;
        final Waiting waiting;
        final Operation operation;
        /** What the latest step put out. */
        final Output output;
        int clock;
        int compare;
        int block;
        int address;
        int length;
        int frame;
        int diskState;

        Devices(Memory memory) {
            this.memory = memory;
            waiting = new Waiting();
            operation = new Operation();
            output = new Output();
        }

        static boolean hasWord(int address) {
            return address >= START && address <= START + FRAME;
        }

        static boolean putsOut(int address) {
            return address == START + CONSOLE || address == START + DISK || address == START + SEND;
        }

        int pending() {
            boolean due = compare != 0 && (clock & UNSIGNED) >= (compare & UNSIGNED);
            boolean waits = waiting.keyCount > 0 || waiting.packetCount > 0 || diskState == DONE;
            return (due ? Guest.CLOCK_BIT : 0) | (waits ? Guest.OUTSIDE_BIT : 0);
        }

        int readWord(int device) {
            switch (device) {
                case CLOCK: return clock;
                case COMPARE: return compare;
                case KEY: return waiting.takeKey();
                case BLOCK: return block;
                case ADDRESS: return address;
                case DISK: return diskState;
                case LENGTH: return length;
                case RECEIVE: return waiting.packetLength();
                case FRAME: return frame;
                default: return 0;
            }
        }

        void writeWord(int device, int v) {
            switch (device) {
                case COMPARE: compare = v; break;
                case CONSOLE: putOutByte(v); break;
                case BLOCK: block = v; break;
                case ADDRESS: address = v; break;
                case DISK: writeDisk(v); break;
                case LENGTH: length = v; break;
                case SEND: putOutPacket(v); break;
                case RECEIVE: receivePacket(v); break;
                case FRAME: frame = v; break;
                default: break;
            }
        }

        void putOutByte(int v) {
            output.kind = Output.BYTE;
            output.length = 1;
            output.bytes[0] = (byte) v;
        }

        void putOutPacket(int start) {
            if (length < 1 || length > PACKET_BYTES || !memory.holds(start, length)) {
                return;
            }
            output.kind = Output.PACKET;
            output.length = length;
            System.arraycopy(memory.bytes, start, output.bytes, 0, length);
        }

        void writeDisk(int v) {
            if (v == 0 && diskState == DONE) {
                diskState = IDLE;
            }
            boolean starts = (v == Operation.READ || v == Operation.WRITE) && diskState != BUSY
                && block >= 0 && block < BLOCKS && memory.holds(address, BLOCK_BYTES);
            if (!starts) {
                return;
            }
            diskState = BUSY;
            operation.kind = v;
            operation.block = block;
            operation.address = address;
            System.arraycopy(memory.bytes, address, operation.bytes, 0, BLOCK_BYTES);
            output.kind = Output.OPERATION;
            output.length = 0;
        }

        void receivePacket(int start) {
            int size = waiting.packetLength();
            if (size > 0 && memory.holds(start, size)) {
                memory.writeBytes(start, waiting.packetBytes, waiting.packetStart(), size);
                waiting.dropPacket();
            }
        }

        void finishOperation(byte[] read) {
            diskState = DONE;
            if (operation.kind == Operation.READ && read != null && read.length == BLOCK_BYTES
                && memory.holds(operation.address, BLOCK_BYTES)) {
                memory.writeBytes(operation.address, read, 0, BLOCK_BYTES);
            }
        }

        void copyFrom(Devices other) {
            waiting.copyFrom(other.waiting);
            operation.copyFrom(other.operation);
            clock = other.clock;
            compare = other.compare;
            block = other.block;
            address = other.address;
            length = other.length;
            frame = other.frame;
            diskState = other.diskState;
        }
    }

    /** The guest machine. */
    private static final class Guest {
        static final int CLOCK_BIT = 1 << 7;
        static final int OUTSIDE_BIT = 1 << 11;
        static final int ON_BIT = 1 << 3;
        static final int WAS_ON_BIT = 1 << 7;

        static final int STATUS = 0;
        static final int ENABLED = 1;
        static final int VECTOR = 2;
        static final int SCRATCH = 3;
        static final int BACK = 4;
        static final int CAUSE = 5;
        static final int VALUE = 6;
        static final int PENDING = 7;
        static final int COUNT_LOW = 8;
        static final int COUNT_HIGH = 9;
        /** The bits that can be 1, of STATUS .. VALUE. */
        static final int[] CONTROL_BITS = {0x88, 0x880, -4, -1, -4, -1, -1};

        static final int NO_PLACE = 0;
        static final int NO_FETCH = 1;
        static final int NO_INSTRUCTION = 2;
        static final int BREAK = 3;
        static final int CALL = 11;
        static final int INTERRUPT = -2147483648;

        static final int CALL_WORD = 115;
        static final int BREAK_WORD = 1048691;
        static final int RETURN_WORD = 807403635;
        static final int SLEEP_WORD = 273678451;

        final Memory memory;
        final Devices devices;
        final int[] registers;
        final int[] control;
        int place;
        long count;
        boolean asleep;
        int outputs;

        Guest(int pages) {
            memory = new Memory(pages);
            devices = new Devices(memory);
            registers = new int[32];
            control = new int[CONTROL_BITS.length];
        }

        /** All but MEMORY, which comes page by page. */
        void copyAllElse(Guest other) {
            devices.copyFrom(other.devices);
            System.arraycopy(other.registers, 0, registers, 0, registers.length);
            System.arraycopy(other.control, 0, control, 0, control.length);
            place = other.place;
            count = other.count;
            asleep = other.asleep;
            outputs = other.outputs;
        }

        long answer(int what) {
            if (what >= 64) {
                return controlValue(what - 64) & UNSIGNED;
            }
            if (what >= 32) {
                return registers[what & 31] & UNSIGNED;
            }
            switch (what) {
                case 1: return count;
                case 2: return place & UNSIGNED;
                case 3: return asleep ? 1 : 0;
                case 4: return outputs;
                case 9: return devices.clock & UNSIGNED;
                case 10: return devices.compare & UNSIGNED;
                case 11: return devices.diskState;
                case 12: return devices.waiting.keyCount;
                default: return devices.waiting.packetCount;
            }
        }

        void receive(Entry event) {
            switch (event.kind) {
                case Entry.KEY: devices.waiting.appendKey(event.value); break;
                case Entry.PACKET: devices.waiting.appendPacket(event.bytes); break;
                case Entry.TICK: devices.clock++; break;
                case Entry.DISK: devices.finishOperation(event.bytes); break;
                default: break;
            }
        }

        /** Wakes the guest if there is cause; what holds a step back afterwards leaves it awake. */
        boolean isAwake() {
            if (asleep && wanted() == 0) {
                return false;
            }
            asleep = false;
            return true;
        }

        int wanted() {
            return devices.pending() & control[ENABLED];
        }

        boolean isInterrupted() {
            return (control[STATUS] & ON_BIT) != 0 && wanted() != 0;
        }

        boolean wouldPutOut() {
            if (isInterrupted() || !memory.holds(place, 4)) {
                return false;
            }
            int w = memory.wordAt(place);
            return (w & 127) == 35 && f(w) == 2 && Devices.putsOut(a(w) + storeOffset(w));
        }

        void makeStep() {
            devices.output.kind = Output.NOTHING;
            if (isInterrupted()) {
                trap(INTERRUPT + ((wanted() & OUTSIDE_BIT) != 0 ? 11 : 7), 0);
            } else if (!memory.holds(place, 4)) {
                trap(NO_FETCH, place);
            } else {
                carryOut(memory.wordAt(place));
            }
            count++;
        }

        void trap(int cause, int value) {
            control[BACK] = place;
            control[CAUSE] = cause;
            control[VALUE] = value;
            control[STATUS] = (control[STATUS] & ON_BIT) != 0 ? WAS_ON_BIT : 0;
            place = control[VECTOR];
        }

        void noInstruction(int w) {
            trap(NO_INSTRUCTION, w);
        }

        static int f(int w) {
            return w >>> 12 & 7;
        }

        static int g(int w) {
            return w >>> 25;
        }

        static int numberA(int w) {
            return w >>> 15 & 31;
        }

        int a(int w) {
            return registers[numberA(w)];
        }

        int b(int w) {
            return registers[w >>> 20 & 31];
        }

        static int storeOffset(int w) {
            return w >> 25 << 5 | w >>> 7 & 31;
        }

        static int jumpOffset(int w) {
            return w >> 31 << 20 | w & 0xFF000 | w >>> 9 & 0x800 | w >>> 20 & 0x7FE;
        }

        static int branchOffset(int w) {
            return w >> 31 << 12 | w << 4 & 0x800 | w >>> 20 & 0x7E0 | w >>> 7 & 0x1E;
        }

        void carryOut(int w) {
            switch (w & 127) {
                case 55: answerAndGoOn(w, w & -4096); break;
                case 23: answerAndGoOn(w, place + (w & -4096)); break;
                case 111: jump(w, place + jumpOffset(w)); break;
                case 103: jumpToRegister(w); break;
                case 99: branch(w); break;
                case 3: load(w); break;
                case 35: store(w); break;
                case 19: computeWithNumber(w); break;
                case 51: computeWithRegister(w); break;
                case 15: place += 4; break;
                case 115:
                    if ((f(w) & 3) == 0) {
                        carryOutWhole(w);
                    } else {
                        useControl(w);
                    }
                    break;
                default: noInstruction(w); break;
            }
        }

        void setD(int w, int v) {
            int d = w >>> 7 & 31;
            if (d != 0) {
                registers[d] = v;
            }
        }

        void answerAndGoOn(int w, int v) {
            setD(w, v);
            place += 4;
        }

        void jump(int w, int target) {
            if ((target & 3) != 0) {
                trap(NO_PLACE, target);
                return;
            }
            setD(w, place + 4);
            place = target;
        }

        void jumpToRegister(int w) {
            if (f(w) != 0) {
                noInstruction(w);
                return;
            }
            jump(w, a(w) + (w >> 20) & -2);
        }

        void branch(int w) {
            int f = f(w);
            if (f == 2 || f == 3) {
                noInstruction(w);
                return;
            }
            boolean holds = f < 4 ? a(w) == b(w)
                : f < 6 ? a(w) < b(w)
                : Integer.compareUnsigned(a(w), b(w)) < 0;
            // An odd F asks for the opposite.
            if (holds == ((f & 1) != 0)) {
                place += 4;
                return;
            }
            int target = place + branchOffset(w);
            if ((target & 3) != 0) {
                trap(NO_PLACE, target);
                return;
            }
            place = target;
        }

        void load(int w) {
            int f = f(w);
            if (f == 3 || f > 5) {
                noInstruction(w);
                return;
            }
            int address = a(w) + (w >> 20);
            int size = 1 << (f & 3);
            if ((address & (size - 1)) != 0) {
                trap(4, address);
            } else if (memory.holds(address, size)) {
                answerAndGoOn(w, loaded(f, address));
            } else if (size == 4 && Devices.hasWord(address)) {
                answerAndGoOn(w, devices.readWord(address - Devices.START));
            } else {
                trap(5, address);
            }
        }

        int loaded(int f, int address) {
            switch (f) {
                case 0: return (byte) memory.byteAt(address);
                case 1: return (short) memory.halfAt(address);
                case 2: return memory.wordAt(address);
                case 4: return memory.byteAt(address);
                default: return memory.halfAt(address);
            }
        }

        void store(int w) {
            int f = f(w);
            if (f > 2) {
                noInstruction(w);
                return;
            }
            int address = a(w) + storeOffset(w);
            int size = 1 << f;
            if ((address & (size - 1)) != 0) {
                trap(6, address);
            } else if (memory.holds(address, size)) {
                memory.write(address, size, b(w));
                place += 4;
            } else if (size == 4 && Devices.hasWord(address)) {
                devices.writeWord(address - Devices.START, b(w));
                place += 4;
            } else {
                trap(7, address);
            }
        }

        void computeWithNumber(int w) {
            int f = f(w);
            int g = g(w);
            if (f == 1 && g != 0 || f == 5 && g != 0 && g != 32) {
                noInstruction(w);
                return;
            }
            answerAndGoOn(w, computed(f, f == 5 && g == 32, a(w), w >> 20));
        }

        void computeWithRegister(int w) {
            int f = f(w);
            int g = g(w);
            if (g != 0 && !(g == 32 && (f == 0 || f == 5))) {
                noInstruction(w);
                return;
            }
            answerAndGoOn(w, computed(f, g == 32, a(w), b(w)));
        }

        /** A shift in Java looks at the lowest five bits alone, just as the guest's. */
        static int computed(int f, boolean other, int a, int b) {
            switch (f) {
                case 0: return other ? a - b : a + b;
                case 1: return a << b;
                case 2: return a < b ? 1 : 0;
                case 3: return Integer.compareUnsigned(a, b) < 0 ? 1 : 0;
                case 4: return a ^ b;
                case 5: return other ? a >> b : a >>> b;
                case 6: return a | b;
                default: return a & b;
            }
        }

        /** Of those that are one word each, with nothing to fill in. */
        void carryOutWhole(int w) {
            switch (w) {
                case CALL_WORD: trap(CALL, 0); break;
                case BREAK_WORD: trap(BREAK, place); break;
                case RETURN_WORD: returnFromTrap(); break;
                case SLEEP_WORD:
                    asleep = true;
                    place += 4;
                    break;
                default: noInstruction(w); break;
            }
        }

        void returnFromTrap() {
            boolean wasOn = (control[STATUS] & WAS_ON_BIT) != 0;
            control[STATUS] = WAS_ON_BIT | (wasOn ? ON_BIT : 0);
            place = control[BACK];
        }

        void useControl(int w) {
            int f = f(w);
            int which = whichControl(w >>> 20);
            boolean onlyRead = (f & 3) != 1 && numberA(w) == 0;
            if (which == NONE || which >= PENDING && !onlyRead) {
                noInstruction(w);
                return;
            }
            int had = controlValue(which);
            int operand = f > 4 ? numberA(w) : a(w);
            if (which < PENDING && !onlyRead) {
                int v = (f & 3) == 1 ? operand : (f & 3) == 2 ? had | operand : had & ~operand;
                control[which] = v & CONTROL_BITS[which];
            }
            answerAndGoOn(w, had);
        }

        static int whichControl(int number) {
            switch (number) {
                case 768: return STATUS;
                case 772: return ENABLED;
                case 773: return VECTOR;
                case 832: return SCRATCH;
                case 833: return BACK;
                case 834: return CAUSE;
                case 835: return VALUE;
                case 836: return PENDING;
                case 3074: return COUNT_LOW;
                case 3202: return COUNT_HIGH;
                default: return NONE;
            }
        }

        int controlValue(int which) {
            if (which >= 0 && which < PENDING) {
                return control[which];
            }
            if (which == PENDING) {
                return devices.pending();
            }
            return which == COUNT_LOW ? (int) count : (int) (count >>> 32);
        }
    }
}
