import java.util.LinkedHashMap;
import java.util.Map;

/**
 * All that can be asked of a herd, call by call with its answer, to hold two herds against each other. The last calls
 * change it, for WIND, GUARDED and IMAGES can't be seen otherwise: the herd is used up then. Some 330 calls.
 */
final class Witness {
    private final Map<String, Integer> seen = new LinkedHashMap<>();
    private final BellHerd x;

    private Witness(BellHerd x) {
        this.x = x;
    }

    static Map<String, Integer> of(BellHerd x) {
        Witness all = new Witness(x);
        all.refusals();
        all.unkept();
        all.kept("");
        all.told();
        all.images();
        return all.seen;
    }

    private void refusals() {
        seen.put("status()", x.status());
        for (int what = 7; what <= 11; what++) {
            seen.put("count(" + what + ")", x.count(what));
        }
    }

    private void unkept() {
        seen.put("lost()", x.lost());
        seen.put("fault()", x.fault());
        seen.put("count(6)", x.count(6));
        for (int cow = 0; cow < 5; cow++) {
            seen.put("drawn(" + cow + ")", x.drawn(cow));
        }
    }

    private void kept(String when) {
        for (int what : new int[] {0, 1, 2, 3, 4, 5, 12}) {
            seen.put(when + "count(" + what + ")", x.count(what));
        }
        for (int cow = 0; cow < 5; cow++) {
            for (int what = 0; what < 8; what++) {
                seen.put(when + "of(" + cow + ", " + what + ")", x.of(cow, what));
            }
            seen.put(when + "who(" + cow + ", 0)", x.who(cow, 0));
        }
        for (int which = 0; which <= 4; which++) {
            seen.put(when + "note(" + which + ", -1)", x.note(which, -1));
        }
    }

    private void told() {
        for (int cow = 0; cow < 5; cow++) {
            for (int i = 0; i < 9; i++) {
                seen.put("cell(" + cow + ", " + i + ")", x.cell(cow, i));
            }
            seen.put("who(" + cow + ", 1)", x.who(cow, 1));
            seen.put("likely(" + cow + ", 0)", x.likely(cow, 0));
            seen.put("would(" + cow + ", " + cow + ")", x.would(cow, cow));
        }
        for (int which = 0; which <= 4; which++) {
            for (int i = 0; i < x.note(which, -1); i++) {
                seen.put("note(" + which + ", " + i + ")", x.note(which, i));
            }
        }
        for (int what = 0; what < 3; what++) {
            seen.put("drive(" + what + ")", x.drive(what));
            seen.put("calls(" + what + ")", x.calls(what));
        }
        seen.put("dogs()", x.dogs());
        seen.put("unlawful()", x.unlawful());
        seen.put("hymn()", x.hymn());
        seen.put("sold()", x.sold());
    }

    private void images() {
        seen.put("wind(0)", x.wind(0));
        seen.put("guard(0)", x.guard(0));
        for (int k = 0; k < 2; k++) {
            seen.put("back(" + k + ")", x.back(k));
            kept("behind back(" + k + "): ");
        }
    }
}
