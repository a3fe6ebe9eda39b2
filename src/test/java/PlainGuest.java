import java.util.ArrayDeque;
import java.util.Arrays;
import java.util.Deque;
import java.util.TreeMap;
import java.util.TreeSet;

/** The guest once more, written from the document alone, as plainly as it can be. */
final class PlainGuest implements Cloneable {
    /** What was put out: 'c' a byte, 'p' a packet, 'd' an operation. */
    record Out(char kind, byte[] bytes, int operation, int block, int address) { }

    static final class Trap extends Exception {
        private static final long serialVersionUID = 1L;
        final long cause;
        final long value;

        Trap(long cause, long value) {
            super(null, null, false, false);
            this.cause = cause;
            this.value = value;
        }
    }

    long[] x = new long[32];
    long place = 0;
    long count = 0;
    byte[] memory;
    TreeMap<Integer, Long> control = new TreeMap<>();
    TreeMap<Integer, Long> plain = new TreeMap<>();
    boolean asleep = false;
    long clock = 0;
    Deque<Integer> keys = new ArrayDeque<>();
    Deque<byte[]> packets = new ArrayDeque<>();
    int disk = 0;
    Out operation = null;
    int outputs = 0;
    /** What the latest step put out, or null. */
    Out output = null;
    TreeSet<Integer> written = new TreeSet<>();

    PlainGuest(int pages) {
        memory = new byte[256 * pages];
        for (int c : new int[] {768, 772, 773, 832, 833, 834, 835}) {
            control.put(c, 0L);
        }
        for (int r : new int[] {4, 16, 20, 28, 40}) {
            plain.put(r, 0L);
        }
    }

    /** All but MEMORY. */
    void takeAllElse(PlainGuest other) {
        x = other.x.clone();
        place = other.place;
        count = other.count;
        control = new TreeMap<>(other.control);
        plain = new TreeMap<>(other.plain);
        asleep = other.asleep;
        clock = other.clock;
        keys = new ArrayDeque<>(other.keys);
        packets = new ArrayDeque<>(other.packets);
        disk = other.disk;
        operation = other.operation;
        outputs = other.outputs;
    }

    static long low(long v) {
        return v & 0xFFFFFFFFL;
    }

    static long signed(long v, int bits) {
        return v << 64 - bits >> 64 - bits;
    }

    long pending() {
        long compare = plain.get(4);
        long p = 0;
        if (clock >= compare && compare != 0) {
            p += 128;
        }
        if (!keys.isEmpty() || !packets.isEmpty() || disk == 2) {
            p += 2048;
        }
        return p;
    }

    boolean wakes() {
        if (asleep && (pending() & control.get(772)) == 0) {
            return false;
        }
        asleep = false;
        return true;
    }

    boolean interrupted() {
        return (control.get(768) & 8) != 0 && (pending() & control.get(772)) != 0;
    }

    boolean inMemory(long address, long length) {
        return address >= 0 && address + length <= memory.length;
    }

    long get(long address, int size) {
        long v = 0;
        for (int i = size - 1; i >= 0; i--) {
            v = v * 256 + (memory[(int) address + i] & 255);
        }
        return v;
    }

    void set(long address, byte... bytes) {
        for (int i = 0; i < bytes.length; i++) {
            memory[(int) address + i] = bytes[i];
            written.add(((int) address + i) / 256);
        }
    }

    static long bits(long w, int from, int to) {
        long v = 0;
        for (int i = to; i >= from; i--) {
            v = 2 * v + (w >> i & 1);
        }
        return v;
    }

    /** Bits as the document lists them: the highest first. */
    static long joined(long w, int... which) {
        long v = 0;
        for (int i : which) {
            v = 2 * v + (i < 0 ? 0 : w >> i & 1);
        }
        return signed(v, which.length);
    }

    static long number(long w) {
        return signed(bits(w, 20, 31), 12);
    }

    static long storeNumber(long w) {
        return signed(bits(w, 25, 31) * 32 + bits(w, 7, 11), 12);
    }

    /** Whether the next step would store a word to CONSOLE, DISK or SEND. */
    boolean storesOut() {
        if (interrupted() || !inMemory(place, 4)) {
            return false;
        }
        long w = get(place, 4);
        if (bits(w, 0, 6) != 35 || bits(w, 12, 14) != 2) {
            return false;
        }
        long to = low(x[(int) bits(w, 15, 19)] + storeNumber(w)) - 65536;
        return to == 12 || to == 24 || to == 32;
    }

    void step() {
        output = null;
        try {
            if (interrupted()) {
                boolean eleven = (pending() & control.get(772) & 2048) != 0;
                throw new Trap(low(-2147483648L + (eleven ? 11 : 7)), 0);
            }
            if (!inMemory(place, 4)) {
                throw new Trap(1, place);
            }
            long w = get(place, 4);
            place = low(carryOut(w));
        } catch (Trap t) {
            control.put(833, place);
            control.put(834, low(t.cause));
            control.put(835, low(t.value));
            control.put(768, (control.get(768) & 8) * 16);
            place = control.get(773);
        }
        count++;
        if (output != null) {
            outputs++;
        }
    }

    private void give(long w, long v) {
        int d = (int) bits(w, 7, 11);
        if (d > 0) {
            x[d] = low(v);
        }
    }

    private long carryOut(long w) throws Trap {
        long a = x[(int) bits(w, 15, 19)];
        long b = x[(int) bits(w, 20, 24)];
        int f = (int) bits(w, 12, 14);
        switch ((int) bits(w, 0, 6)) {
            case 55 -> give(w, bits(w, 12, 31) << 12);
            case 23 -> give(w, place + (bits(w, 12, 31) << 12));
            case 111 -> {
                return jump(w, place + joined(w, 31, 19, 18, 17, 16, 15, 14, 13, 12, 20, 30, 29, 28, 27, 26, 25, 24, 23, 22, 21, -1));
            }
            case 103 -> {
                want(f == 0, w);
                return jump(w, low(a + number(w)) / 2 * 2);
            }
            case 99 -> {
                return branch(w, f, a, b);
            }
            case 3 -> load(w, f, low(a + number(w)));
            case 35 -> store(w, f, low(a + storeNumber(w)), b);
            case 19 -> immediate(w, f, a);
            case 51 -> both(w, f, a, b);
            case 15 -> { }
            case 115 -> {
                return system(w, f, a);
            }
            default -> want(false, w);
        }
        return place + 4;
    }

    private static void want(boolean isOne, long w) throws Trap {
        if (!isOne) {
            throw new Trap(2, w);
        }
    }

    private long jump(long w, long to) throws Trap {
        aligned(to);
        give(w, place + 4);
        return to;
    }

    private static void aligned(long to) throws Trap {
        if (low(to) % 4 != 0) {
            throw new Trap(0, to);
        }
    }

    private long branch(long w, int f, long a, long b) throws Trap {
        boolean go = switch (f) {
            case 0 -> a == b;
            case 1 -> a != b;
            case 4 -> signed(a, 32) < signed(b, 32);
            case 5 -> signed(a, 32) >= signed(b, 32);
            case 6 -> a < b;
            case 7 -> a >= b;
            default -> throw new Trap(2, w);
        };
        if (!go) {
            return place + 4;
        }
        long to = place + joined(w, 31, 7, 30, 29, 28, 27, 26, 25, 11, 10, 9, 8, -1);
        aligned(to);
        return to;
    }

    private void load(long w, int f, long address) throws Trap {
        want(f == 0 || f == 1 || f == 2 || f == 4 || f == 5, w);
        int size = f == 2 ? 4 : f % 4 == 1 ? 2 : 1;
        if (address % size != 0) {
            throw new Trap(4, address);
        }
        if (inMemory(address, size)) {
            long v = get(address, size);
            give(w, f < 2 ? signed(v, 8 * size) : v);
        } else if (size == 4 && address >= 65536 && address <= 65536 + 40) {
            give(w, readDevice((int) address - 65536));
        } else {
            throw new Trap(5, address);
        }
    }

    private void store(long w, int f, long address, long b) throws Trap {
        want(f < 3, w);
        int size = new int[] {1, 2, 4}[f];
        if (address % size != 0) {
            throw new Trap(6, address);
        }
        if (inMemory(address, size)) {
            for (int i = 0; i < size; i++) {
                set(address + i, (byte) (b >> 8 * i));
            }
        } else if (size == 4 && address >= 65536 && address <= 65536 + 40) {
            writeDevice((int) address - 65536, b);
        } else {
            throw new Trap(7, address);
        }
    }

    private void immediate(long w, int f, long a) throws Trap {
        long g = bits(w, 25, 31);
        long i = number(w);
        int by = (int) bits(w, 20, 24);
        switch (f) {
            case 0 -> give(w, a + i);
            case 2 -> give(w, signed(a, 32) < i ? 1 : 0);
            case 3 -> give(w, a < low(i) ? 1 : 0);
            case 4 -> give(w, a ^ i);
            case 6 -> give(w, a | i);
            case 7 -> give(w, a & i);
            case 1 -> {
                want(g == 0, w);
                give(w, a << by);
            }
            default -> {
                want(g == 0 || g == 32, w);
                give(w, g == 0 ? a >> by : signed(a, 32) >> by);
            }
        }
    }

    private void both(long w, int f, long a, long b) throws Trap {
        long g = bits(w, 25, 31);
        int by = (int) (b % 32);
        want(g == 0 || g == 32 && (f == 0 || f == 5), w);
        switch (f) {
            case 0 -> give(w, g == 0 ? a + b : a - b);
            case 1 -> give(w, a << by);
            case 2 -> give(w, signed(a, 32) < signed(b, 32) ? 1 : 0);
            case 3 -> give(w, a < b ? 1 : 0);
            case 4 -> give(w, a ^ b);
            case 5 -> give(w, g == 0 ? a >> by : signed(a, 32) >> by);
            case 6 -> give(w, a | b);
            default -> give(w, a & b);
        }
    }

    private long system(long w, int f, long a) throws Trap {
        if (w == 115) {
            throw new Trap(11, 0);
        }
        if (w == 1048691) {
            throw new Trap(3, place);
        }
        if (w == 807403635) {
            control.put(768, (control.get(768) & 128) / 16 + 128);
            return control.get(833);
        }
        if (w == 273678451) {
            asleep = true;
            return place + 4;
        }
        want(f != 0 && f != 4, w);
        int which = (int) bits(w, 20, 31);
        boolean readAlone = which == 836 || which == 3074 || which == 3202;
        boolean onlyRead = f % 4 != 1 && bits(w, 15, 19) == 0;
        want(readAlone && onlyRead || control.containsKey(which), w);
        long had = control(which);
        long v = f > 4 ? bits(w, 15, 19) : a;
        if (!onlyRead) {
            setControl(which, f % 4 == 1 ? v : f % 4 == 2 ? had | v : had & ~v);
        }
        give(w, had);
        return place + 4;
    }

    long control(int which) {
        return switch (which) {
            case 836 -> pending();
            case 3074 -> low(count);
            case 3202 -> low(count >> 32);
            default -> control.get(which);
        };
    }

    private void setControl(int which, long v) {
        control.put(which, switch (which) {
            case 768 -> v & 0x88;
            case 772 -> v & 0x880;
            case 773, 833 -> low(v) / 4 * 4;
            default -> low(v);
        });
    }

    private long readDevice(int device) {
        return switch (device) {
            case 0 -> clock;
            case 8 -> keys.isEmpty() ? -1 : keys.removeFirst();
            case 24 -> disk;
            case 36 -> packets.isEmpty() ? 0 : packets.getFirst().length;
            default -> plain.getOrDefault(device, 0L);
        };
    }

    private void writeDevice(int device, long v) {
        if (plain.containsKey(device)) {
            plain.put(device, v);
        }
        if (device == 12) {
            output = new Out('c', new byte[] {(byte) v}, 0, 0, 0);
        }
        if (device == 24 && v == 0 && disk == 2) {
            disk = 0;
        } else if (device == 24 && (v == 1 || v == 2) && disk != 1) {
            long address = plain.get(20);
            if (plain.get(16) < 8 && inMemory(address, 64)) {
                disk = 1;
                byte[] now = Arrays.copyOfRange(memory, (int) address, (int) address + 64);
                operation = new Out('d', now, (int) v, plain.get(16).intValue(), (int) address);
                output = operation;
            }
        }
        long length = plain.get(28);
        if (device == 32 && length >= 1 && length <= 32 && inMemory(v, length)) {
            output = new Out('p', Arrays.copyOfRange(memory, (int) v, (int) (v + length)), 0, 0, 0);
        }
        if (device == 36 && !packets.isEmpty() && inMemory(v, packets.getFirst().length)) {
            set(v, packets.removeFirst());
        }
    }

    void diskDone(byte[] come) {
        disk = 2;
        if (operation.operation() == 1) {
            set(operation.address(), come);
        }
    }
}
