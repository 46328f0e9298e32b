import java.util.Map;
import java.util.function.ToIntFunction;

/**
 * Every call that can be REFUSED, by each number that its promise names and on each side of each bound: the answer, what
 * status() and count() say of it, and that all else stands as in a herd to which it never came.
 */
public final class RefusedTest extends Trial {
    private static final int MIN = Integer.MIN_VALUE;
    private static final int MAX = Integer.MAX_VALUE;
    /** By which a call is REFUSED, in the order of count(7) .. count(11). */
    private static final int[] CODES = {-1, -2, -3, -5, -6};

    /** A herd without anything. */
    private BellHerd empty() {
        x = new BellHerd();
        return x;
    }

    /** A herd with something of all; IMAGE 1 is not kept, and the TAPE has three bytes. */
    private BellHerd some() {
        x = new BellHerd();
        int[] notes = {5, 7, 7, 9};
        for (int cow = 0; cow < 4; cow++) {
            x.cow(notes[cow], 1 + cow % 3, cow, 20 - cow);
        }
        x.put(3, 1, 1);
        row(0, 0, 1, 2, 3, 4, 5, 6, 7, 8, 9);
        row(0, 1, 10, 2, 11);
        row(0, 2, 20, 21, 22);
        row(1, 0, 5, 7);
        row(1, 1, 4);
        row(1, 2, 9, 9, 9, 9, 9, 9);
        row(2, 0, 5, 99, 7, 7);
        x.gap(22);
        x.gap(63);
        x.gap(21);
        x.guard(6);
        law("rank age; loud 10 + left");
        law("balks if");
        x.force(0);
        x.order(2);
        x.order(0);
        x.ear(5, 3);
        x.wind(2);
        x.image(0);
        x.left(0, 1);
        x.order(1);
        x.fog(17, 9);
        tape("abc");
        return x;
    }

    /** A herd in which there is no room for anything more. */
    private BellHerd full() {
        x = new BellHerd();
        for (int cow = 0; cow < 5; cow++) {
            x.cow(cow, 1, 1, 1);
            row(0, cow, cow * 9, cow * 9 + 1, cow * 9 + 2);
            x.order(cow);
        }
        for (int i = 0; i < 5; i++) {
            x.gap(63 - i);
        }
        for (int i = 0; i < 6; i++) {
            law("rank cow * " + i);
        }
        x.force(5);
        for (int i = 0; i < 20; i++) {
            x.ear(i, i % 10);
        }
        x.image(0);
        x.image(1);
        for (int i = 0; i < 20; i++) {
            x.feed(i, i, i, i, i);
        }
        return x;
    }

    private BellHerd made(String herd) {
        return herd.equals("empty") ? empty() : herd.equals("some") ? some() : full();
    }

    private void alike(String call, Map<String, Integer> with, Map<String, Integer> without) {
        for (Map.Entry<String, Integer> one : without.entrySet()) {
            due(one.getKey() + " behind " + call, with.get(one.getKey()), one.getValue());
        }
        due("how much is seen behind " + call, with.size(), without.size());
    }

    private void refused(String herd, int by, String call, ToIntFunction<BellHerd> made) {
        refused(herd, by, call, y -> 0, made, Map.of());
    }

    /** ahead: what is done in both herds ahead of the call. besides: what is other by it, though it is REFUSED. */
    private void refused(String herd, int by, String call, ToIntFunction<BellHerd> ahead, ToIntFunction<BellHerd> made,
            Map<String, Integer> besides) {
        about = "REFUSED in a herd with " + herd;
        BellHerd other = made(herd);
        ahead.applyAsInt(other);
        Map<String, Integer> without = Witness.of(other);
        without.putAll(besides);
        BellHerd one = made(herd);
        ahead.applyAsInt(one);
        due(call, made.applyAsInt(one), by);
        without.put("status()", by);
        for (int i = 0; i < CODES.length; i++) {
            if (CODES[i] == by) {
                without.merge("count(" + (7 + i) + ")", 1, Integer::sum);
            }
        }
        alike(call, Witness.of(one), without);
    }

    /** A call that only asks, or answers NONE: nothing is other behind it, nor is it REFUSED. */
    private void asked(String herd, int answer, String call, ToIntFunction<BellHerd> made) {
        about = "asked of a herd with " + herd;
        Map<String, Integer> without = Witness.of(made(herd));
        BellHerd one = made(herd);
        due(call, made.applyAsInt(one), answer);
        alike(call, Witness.of(one), without);
    }

    private void cowAndPut() {
        for (String herd : new String[] {"empty", "some", "full"}) {
            for (int note : new int[] {MIN, -1, 24, MAX}) {
                refused(herd, -1, "cow with NOTE " + note, y -> y.cow(note, 1, 0, 0));
            }
            for (int pace : new int[] {MIN, -1, 0, 4, MAX}) {
                refused(herd, -1, "cow with PACE " + pace, y -> y.cow(0, pace, 0, 0));
            }
            for (int fear : new int[] {MIN, -1, 10, MAX}) {
                refused(herd, -1, "cow with FEAR " + fear, y -> y.cow(0, 1, fear, 0));
            }
            for (int age : new int[] {MIN, -1, 31, MAX}) {
                refused(herd, -1, "cow with AGE " + age, y -> y.cow(0, 1, 0, age));
            }
            for (int what : new int[] {MIN, -1, 5, 6, MAX}) {
                refused(herd, -1, "put of what " + what, y -> y.put(0, what, 1));
            }
        }
        refused("full", -5, "a sixth cow", y -> y.cow(0, 1, 0, 0));
        refused("full", -5, "a sixth cow", y -> y.cow(23, 3, 9, 30));
        int[] least = {0, 0, 1, 0, 0};
        int[] most = {23, 1, 3, 9, 30};
        for (int i = 0; i < 5; i++) {
            int what = i;
            for (int value : new int[] {MIN, least[i] - 1, most[i] + 1, MAX}) {
                refused("some", -1, "put(0, " + i + ", " + value + ")", y -> y.put(0, what, value));
                refused("some", -1, "put(4, " + i + ", " + value + "), -1 ahead of -2", y -> y.put(4, what, value));
            }
            for (int cow : new int[] {MIN, -1, 4, MAX}) {
                refused("some", -2, "put(" + cow + ", " + i + ", 1)", y -> y.put(cow, what, 1));
            }
            refused("empty", -2, "put(0, " + i + ", 1)", y -> y.put(0, what, 1));
            refused("full", -2, "put(5, " + i + ", 1)", y -> y.put(5, what, 1));
        }
    }

    private void leftAndWind() {
        for (int cow : new int[] {MIN, -1, 4, MAX}) {
            refused("some", -2, "left(" + cow + ", 0)", y -> y.left(cow, 0));
            refused("some", -2, "left(" + cow + ", -1), -2 ahead of -1", y -> y.left(cow, -1));
        }
        refused("empty", -2, "left(0, 0)", y -> y.left(0, 0));
        refused("full", -2, "left(5, 10)", y -> y.left(5, 10));
        for (int left : new int[] {MIN, -1, 10, MAX}) {
            refused("some", -1, "left(0, " + left + ")", y -> y.left(0, left));
        }
        refused("some", -1, "left(1, 4)", y -> y.left(1, 4));
        refused("some", -1, "left(3, 1) without a WAY", y -> y.left(3, 1));
        refused("some", -3, "left(1, 2), where COW 0 stands", y -> y.left(0, 8), y -> y.left(1, 2), Map.of());
        for (int wind : new int[] {MIN, -1, 4, MAX}) {
            refused("empty", -1, "wind(" + wind + ")", y -> y.wind(wind));
            refused("some", -1, "wind(" + wind + ")", y -> y.wind(wind));
        }
    }

    private void gapAndGuard() {
        for (String herd : new String[] {"empty", "some", "full"}) {
            for (int cell : new int[] {MIN, -1, 64, MAX}) {
                refused(herd, -1, "gap(" + cell + ")", y -> y.gap(cell));
            }
            int gaps = made(herd).count(2);
            for (int bits : new int[] {MIN, -1, 1 << gaps, 1 << 5, 1 << 30, MAX}) {
                refused(herd, -1, "guard(" + bits + ")", y -> y.guard(bits));
            }
        }
        refused("some", -3, "gap(22), which is one", y -> y.gap(22));
        refused("some", -3, "gap(63), which is one", y -> y.gap(63));
        refused("full", -3, "gap(59), -3 ahead of -5", y -> y.gap(59));
        refused("full", -5, "gap(58), a sixth", y -> y.gap(58));
        refused("full", -5, "gap(0), a sixth", y -> y.gap(0));
    }

    /** The TAPE stays by -1, -2; by -3, -5, -6 it is empty then. */
    private void rowAndLaw() {
        for (String herd : new String[] {"empty", "some", "full"}) {
            for (int what : new int[] {MIN, -1, 3, MAX}) {
                refused(herd, -1, "row(" + what + ", 0)", y -> y.row(what, 0));
                refused(herd, -1, "row(" + what + ", 9), -1 ahead of -2", y -> y.row(what, 9));
            }
            for (int tune : new int[] {MIN, -1, 4, MAX}) {
                refused(herd, -1, "row(1, " + tune + ")", y -> y.row(1, tune));
            }
            for (int of : new int[] {MIN, -1, 1, 4, MAX}) {
                refused(herd, -1, "row(2, " + of + ")", y -> y.row(2, of));
            }
            int cows = made(herd).count(0);
            for (int cow : new int[] {MIN, -1, cows, 5, MAX}) {
                refused(herd, -2, "row(0, " + cow + ")", y -> y.row(0, cow));
            }
        }
        Map<String, Integer> taped = Map.of("count(6)", 0);
        for (int what = 0; what < 3; what++) {
            int it = what;
            refused("some", -6, "row(" + what + ", 0) of an empty TAPE", y -> y.end(0), y -> y.row(it, 0), taped);
        }
        refused("empty", -6, "row(1, 3) of an empty TAPE", y -> y.row(1, 3));
        refused("some", -3, "row(0, 0), where COW 1 stands", y -> fed(y, 0x0A010203, 4), y -> y.row(0, 0), taped);
        refused("some", -3, "row(0, 0), where COW 1 stands behind what is LOST", y -> fed(y, 0x40FF0A01, 4),
                y -> y.row(0, 0), taped);
        refused("some", -3, "row(0, 3), where COW 2 stands", y -> fed(y, 0x14000000, 1), y -> y.row(0, 3), taped);
        refused("full", -5, "a seventh law()", y -> 0, y -> y.law(), taped);
        refused("full", -5, "a seventh law() of an empty TAPE", y -> y.end(0), y -> y.law(), taped);
        refused("some", -6, "law() of abc", y -> 0, y -> y.law(), Map.of("count(6)", 0, "fault()", 0));
        refused("some", -6, "law() of nothing", y -> y.end(0), y -> y.law(), Map.of("fault()", 0));
        refused("some", -6, "law() of blanks", y -> fed(y, 0x20202020, 4), y -> y.law(),
                Map.of("count(6)", 0, "fault()", 4));
    }

    /** The TAPE has the first n bytes of a number. */
    private static int fed(BellHerd y, int number, int n) {
        y.end(0);
        y.feed(number, 0, 0, 0, 0);
        return y.end(n);
    }

    private void orderAndCall() {
        for (String herd : new String[] {"empty", "some", "full"}) {
            int cows = made(herd).count(0);
            int laws = made(herd).count(1);
            for (int cow : new int[] {MIN, -1, cows, 5, MAX}) {
                refused(herd, -2, "order(" + cow + ")", y -> y.order(cow));
                refused(herd, -2, "call(" + cow + ")", y -> y.call(cow));
            }
            for (int law : new int[] {MIN, -2, laws, 6, MAX}) {
                refused(herd, -2, "force(" + law + ")", y -> y.force(law));
            }
        }
        for (int cow = 0; cow < 3; cow++) {
            int it = cow;
            refused("some", -3, "order(" + cow + "), which is in it", y -> y.order(it));
        }
        refused("full", -3, "order(4), which is in it", y -> y.order(4));
        refused("some", -3, "call(3), which is HOME", y -> y.call(3));
        refused("some", -3, "call(0), HOME out of the ORDER", y -> y.call(0));
        refused("some", -3, "call(2), into a GAP", y -> y.put(2, 2, 2), y -> y.call(2), Map.of());
    }

    private void tunesEarsFogImages() {
        for (String herd : new String[] {"empty", "some", "full"}) {
            for (int tune : new int[] {MIN, -1, 4, MAX}) {
                refused(herd, -1, "lead(" + tune + ")", y -> y.lead(tune));
                refused(herd, -1, "cast(" + tune + ")", y -> y.cast(tune));
            }
            for (int note : new int[] {MIN, -1, 24, MAX}) {
                refused(herd, -1, "ear(" + note + ", 0)", y -> y.ear(note, 0));
            }
            for (int loud : new int[] {MIN, -1, 10, MAX}) {
                refused(herd, -1, "ear(0, " + loud + ")", y -> y.ear(0, loud));
            }
            for (int seed : new int[] {MIN, -1, 1_000_001, MAX}) {
                refused(herd, -1, "fog(" + seed + ", 0)", y -> y.fog(seed, 0));
            }
            for (int rounds : new int[] {MIN, -1, 201, MAX}) {
                refused(herd, -1, "fog(0, " + rounds + ")", y -> y.fog(0, rounds));
            }
            for (int k : new int[] {MIN, -1, 2, MAX}) {
                refused(herd, -1, "image(" + k + ")", y -> y.image(k));
                refused(herd, -1, "back(" + k + ")", y -> y.back(k));
            }
        }
        refused("some", -3, "cast(1), for all bells are higher", y -> y.cast(1));
        refused("some", -3, "cast(2), for there are too few COWS", y -> y.cast(2));
        refused("full", -5, "a 21st ear", y -> y.ear(0, 0));
        refused("full", -5, "a 21st ear", y -> y.ear(23, 9));
        refused("empty", -2, "back(0), not kept", y -> y.back(0));
        refused("some", -2, "back(1), not kept", y -> y.back(1));
    }

    /** What answers NONE and names no number to be REFUSED by is not REFUSED, and changes nothing. */
    private void noneIsNotRefused() {
        asked("full", -1, "feed beyond 400", y -> y.feed(1, 2, 3, 4, 5));
        for (int n : new int[] {MIN, -1, 4, 401, MAX}) {
            asked("some", -1, "end(" + n + ")", y -> y.end(n));
        }
        asked("empty", -1, "end(1)", y -> y.end(1));
        asked("some", 3, "end(3), as it is", y -> y.end(3));
        for (int odd : new int[] {MIN, -1, 4, MAX}) {
            asked("some", -1, "of(" + odd + ", 0)", y -> y.of(odd, 0));
            asked("some", -1, "cell(" + odd + ", 0)", y -> y.cell(odd, 0));
            asked("some", -1, "who(" + odd + ", 0)", y -> y.who(odd, 0));
            asked("some", -1, "who(" + odd + ", 1)", y -> y.who(odd, 1));
            asked("some", -1, "would(" + odd + ", 1)", y -> y.would(odd, 1));
            asked("some", -1, "would(1, " + odd + ")", y -> y.would(1, odd));
            asked("some", -1, "drive(" + odd + ")", y -> y.drive(odd));
            asked("some", -1, "rung(" + odd + ")", y -> y.rung(odd));
            asked("some", -1, "recast(" + odd + ", 0)", y -> y.recast(odd, 0));
            asked("some", -1, "recast(" + odd + ", 1)", y -> y.recast(odd, 1));
            asked("some", -1, "hoof(" + odd + ", 0)", y -> y.hoof(odd, 0));
            asked("some", -1, "slips(" + odd + ", 0)", y -> y.slips(odd, 0));
            asked("some", -1, "likely(" + odd + ", 0)", y -> y.likely(odd, 0));
            asked("some", -1, "drawn(" + odd + ")", y -> y.drawn(odd));
            asked("some", -1, "count(" + (odd == 4 ? 13 : odd) + ")", y -> y.count(odd == 4 ? 13 : odd));
            asked("some", -1, "note(" + (odd == 4 ? 5 : odd) + ", -1)", y -> y.note(odd == 4 ? 5 : odd, -1));
        }
    }

    /** What only asks changes nothing, by whatever it is answered. */
    private void askingChangesNothing() {
        asked("some", 7, "of(1, 0)", y -> y.of(1, 0));
        asked("some", 2, "cell(1, 1)", y -> y.cell(1, 1));
        asked("some", 1, "lost()", y -> y.lost());
        asked("some", 3, "note(4, -1)", y -> y.note(4, -1));
        asked("some", 8, "fault()", y -> y.fault());
        asked("some", 3, "who(0, 1)", y -> y.who(0, 1));
        asked("some", 1, "unlawful()", y -> y.unlawful());
        asked("some", 1, "would(1, 1)", y -> y.would(1, 1));
        asked("some", 4, "drive(0)", y -> y.drive(0));
        asked("some", 1, "calls(0)", y -> y.calls(0));
        asked("some", 0, "dogs()", y -> y.dogs());
        asked("some", 1, "rung(0)", y -> y.rung(0));
        asked("some", 0, "recast(0, 0)", y -> y.recast(0, 0));
        asked("some", 1, "hoof(0, 1)", y -> y.hoof(0, 1));
        asked("some", 1, "slips(0, 0)", y -> y.slips(0, 0));
        asked("some", 0, "hymn()", y -> y.hymn());
        asked("some", 1, "sold()", y -> y.sold());
        asked("some", 68_965, "likely(0, 0)", y -> y.likely(0, 0));
        asked("some", 0, "drawn(3)", y -> y.drawn(3));
        asked("some", 3, "count(6)", y -> y.count(6));
        asked("some", 0, "status()", y -> y.status());
    }

    private void all() {
        cowAndPut();
        leftAndWind();
        gapAndGuard();
        rowAndLaw();
        orderAndCall();
        tunesEarsFogImages();
        noneIsNotRefused();
        askingChangesNothing();
    }

    public static void main(String[] args) {
        new RefusedTest().all();
        end("what is REFUSED leaves all as it is");
    }
}
