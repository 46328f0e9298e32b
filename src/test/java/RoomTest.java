import java.lang.management.ManagementFactory;
import java.nio.charset.StandardCharsets;
import java.util.Random;

/**
 * What 512 dear calls make must have room beside all others of a run, at most 7.3 million fields and elements in all:
 * each takes a byte at least, so that many bytes are a safe bound. And no call may throw, whatever its numbers.
 */
public final class RoomTest {
    private static final long ROOM = 7_300_000;
    private static int wrong;

    private static long made() {
        return ((com.sun.management.ThreadMXBean) ManagementFactory.getThreadMXBean()).getThreadAllocatedBytes(
                Thread.currentThread().getId());
    }

    private static void tape(BellHerd x, byte[] bytes) {
        x.end(0);
        for (int from = 0; from < bytes.length; from += 20) {
            int[] five = new int[5];
            for (int i = 0; i < 20; i++) {
                five[i / 4] |= (from + i < bytes.length ? bytes[from + i] : 32) << 24 - i % 4 * 8;
            }
            x.feed(five[0], five[1], five[2], five[3], five[4]);
        }
        x.end(bytes.length);
    }

    /** Five COWS with ever longer WAYS, so that the room for stands must grow step by step. */
    private static int grow(BellHerd x, int length) {
        for (int cow = 0; cow < 5; cow++) {
            byte[] way = new byte[length];
            for (int i = 0; i < length; i++) {
                way[i] = (byte) (cow * 9 + i);
            }
            tape(x, way);
            x.row(0, cow);
        }
        return x.drive(0) + x.dogs();
    }

    private static void dearCalls() {
        byte[] text = ("rank [[[[[[[[1]]]]]]]]" + "+1".repeat(49)).getBytes(StandardCharsets.ISO_8859_1);
        grow(new BellHerd(), 2);
        long before = made();
        BellHerd x = new BellHerd();
        for (int cow = 0; cow < 5; cow++) {
            x.cow(cow, 1, 0, 0);
            x.order(cow);
        }
        for (int length = 1; length <= 9; length++) {
            grow(x, length);
        }
        x.image(0);
        x.image(1);
        for (int i = 0; i < 40; i++) {
            x.back(i % 2);
            tape(x, text);
            x.law();
            x.fog(i, 200);
            x.drive(i % 3);
        }
        long bytes = made() - before;
        if (bytes > ROOM) {
            wrong++;
            System.out.println("dear calls made " + bytes + " bytes");
        }
    }

    private static void anyNumbers(long seed) {
        Random random = new Random(seed);
        BellHerd x = new BellHerd();
        int[] odd = {Integer.MIN_VALUE, Integer.MAX_VALUE, -1, 0, 1, 2, 3, 4, 5, 6, 7, 8, 9, 12, 20, 24, 31, 63, 64, 200};
        for (int i = 0; i < 512; i++) {
            int a = odd[random.nextInt(odd.length)];
            int b = odd[random.nextInt(odd.length)];
            int c = odd[random.nextInt(odd.length)];
            int d = odd[random.nextInt(odd.length)];
            switch (random.nextInt(43)) {
                case 0: x.cow(a, b, c, d); break;
                case 1: x.put(a, b, c); break;
                case 2: x.left(a, b); break;
                case 3: x.of(a, b); break;
                case 4: x.cell(a, b); break;
                case 5: x.wind(a); break;
                case 6: x.gap(a); break;
                case 7: x.guard(a); break;
                case 8: x.feed(random.nextInt(), random.nextInt(), a, b, c); break;
                case 9: x.end(a); break;
                case 10: x.row(a, b); break;
                case 11: x.lost(); break;
                case 12: x.note(a, b); break;
                case 13: x.law(); break;
                case 14: x.fault(); break;
                case 15: x.force(a); break;
                case 16: x.order(a); break;
                case 17: x.clear(); break;
                case 18: x.who(a, b); break;
                case 19: x.unlawful(); break;
                case 20: x.call(a); break;
                case 21: x.would(a, b); break;
                case 22: x.drive(a); break;
                case 23: x.calls(a); break;
                case 24: x.dogs(); break;
                case 25: x.lead(a); break;
                case 26: x.rung(a); break;
                case 27: x.recast(a, b); break;
                case 28: x.hoof(a, b); break;
                case 29: x.cast(a); break;
                case 30: x.sold(); break;
                case 31: x.slips(a, b); break;
                case 32: x.hymn(); break;
                case 33: x.ear(a, b); break;
                case 34: x.deaf(); break;
                case 35: x.likely(a, b); break;
                case 36: x.fog(a, b); break;
                case 37: x.drawn(a); break;
                case 38: x.image(a); break;
                case 39: x.back(a); break;
                case 40: x.count(a); break;
                case 41: x.status(); break;
                default: x.row(random.nextInt(3), random.nextInt(4));
            }
        }
    }

    public static void main(String[] args) {
        dearCalls();
        for (long seed = 0; seed < 2000; seed++) {
            anyNumbers(seed);
        }
        System.out.println(wrong == 0 ? "there is room, and nothing was thrown" : "there is no room");
        if (wrong != 0) {
            System.exit(1);
        }
    }
}
