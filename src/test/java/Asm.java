import java.util.ArrayList;
import java.util.List;

/** Writes guest programs: each method adds one instruction (or says so) and answers the writer. */
final class Asm {
    static final int CLOCK = 0;
    static final int COMPARE = 4;
    static final int KEY = 8;
    static final int CONSOLE = 12;
    static final int BLOCK = 16;
    static final int ADDRESS = 20;
    static final int DISK = 24;
    static final int LENGTH = 28;
    static final int SEND = 32;
    static final int RECEIVE = 36;
    static final int FRAME = 40;

    static final int STATUS = 768;
    static final int ENABLED = 772;
    static final int VECTOR = 773;
    static final int SCRATCH = 832;
    static final int BACK = 833;
    static final int CAUSE = 834;
    static final int VALUE = 835;
    static final int PENDING = 836;
    static final int COUNT = 3074;
    static final int COUNT_HIGH = 3202;

    private final List<Integer> words = new ArrayList<>();

    Asm word(int w) {
        words.add(w);
        return this;
    }

    int here() {
        return 4 * words.size();
    }

    /** Fills with words of 0 up to an address. */
    Asm at(int address) {
        while (here() < address) {
            word(0);
        }
        return this;
    }

    private static int fields(int opcode, int d, int f, int a) {
        return opcode | d << 7 | f << 12 | a << 15;
    }

    Asm number(int opcode, int f, int d, int a, int i) {
        return word(fields(opcode, d, f, a) | i << 20);
    }

    Asm register(int g, int f, int d, int a, int b) {
        return word(fields(51, d, f, a) | b << 20 | g << 25);
    }

    Asm store(int f, int b, int a, int s) {
        return word(fields(35, s & 31, f, a) | b << 20 | s >> 5 << 25);
    }

    Asm branch(int f, int a, int b, int t) {
        return word(fields(99, (t & 30) | t >> 11 & 1, f, a) | b << 20 | (t >> 5 & 63) << 25 | (t >> 12 & 1) << 31);
    }

    Asm jal(int d, int j) {
        return word(111 | d << 7 | j & 0xFF000 | (j >> 11 & 1) << 20 | (j >> 1 & 0x3FF) << 21 | (j >> 20 & 1) << 31);
    }

    Asm jalr(int d, int a, int i) {
        return number(103, 0, d, a, i);
    }

    Asm lui(int d, int upper) {
        return word(55 | d << 7 | upper << 12);
    }

    Asm auipc(int d, int upper) {
        return word(23 | d << 7 | upper << 12);
    }

    Asm addi(int d, int a, int i) {
        return number(19, 0, d, a, i);
    }

    Asm load(int f, int d, int a, int i) {
        return number(3, f, d, a, i);
    }

    Asm lw(int d, int a, int i) {
        return load(2, d, a, i);
    }

    Asm sw(int b, int a, int s) {
        return store(2, b, a, s);
    }

    Asm csr(int f, int d, int which, int a) {
        return number(115, f, d, a, which);
    }

    Asm sleep() {
        return word(273678451);
    }

    Asm back() {
        return word(807403635);
    }

    /** A whole number into a register: two instructions, whatever it is. */
    Asm li(int d, int v) {
        return lui(d, v + 0x800 >>> 12).addi(d, d, v << 20 >> 20);
    }

    /** Puts the DEVICES' first address into register 1. */
    Asm devices() {
        return lui(1, 16);
    }

    int[] words() {
        int[] all = new int[words.size()];
        for (int i = 0; i < all.length; i++) {
            all[i] = words.get(i);
        }
        return all;
    }

    /** Puts the program into the image, from address 0 on; answers the number of calls. */
    int into(ReplayHosts x) {
        int calls = 0;
        for (int i = 0; i < words.size(); i += 2) {
            long high = i + 1 < words.size() ? words.get(i + 1) : 0;
            calls++;
            if (!x.put(4 * i, words.get(i) & 0xFFFFFFFFL | high << 32)) {
                throw new IllegalStateException("the program is too long");
            }
        }
        return calls;
    }

    /** A new object with this program, booted. */
    ReplayHosts booted(int hosts, int pages, int room) {
        ReplayHosts x = new ReplayHosts(hosts, pages, room);
        into(x);
        if (!x.boot()) {
            throw new IllegalStateException("doesn't boot");
        }
        return x;
    }
}
