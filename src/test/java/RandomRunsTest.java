import java.nio.charset.StandardCharsets;
import java.util.ArrayList;
import java.util.List;
import java.util.Random;

/**
 * Long rows of calls drawn by fixed seeds, every answer held against PlainHerd. Another first seed: -Dseed=N -Druns=N.
 * Every fifth seed is drawn once more with few COWS on long WAYS: PlainHerd takes too much time for many on long ones.
 */
public final class RandomRunsTest {
    private static final int CALLS = 512;
    private static final String[] WORDS =
            {"cow", "note", "pace", "fear", "age", "left", "called", "wind", "home", "heard"};

    private final Random random;
    private final BellHerd herd = new BellHerd();
    private final PlainHerd plain = new PlainHerd();
    private final List<String> done = new ArrayList<>();
    private final boolean isLong;
    private final int longestWay;
    private int wrong;

    private RandomRunsTest(long seed, boolean isLong) {
        random = new Random(seed);
        this.isLong = isLong;
        longestWay = isLong ? 5 + random.nextInt(5) : 1 + random.nextInt(4);
    }

    private int below(int n) {
        return random.nextInt(n);
    }

    private boolean chance(int percent) {
        return below(100) < percent;
    }

    /** Mostly from .. to, now and then beyond. */
    private int number(int from, int to) {
        if (chance(96)) {
            return from + below(to - from + 1);
        }
        switch (below(5)) {
            case 0: return from - 1;
            case 1: return to + 1;
            case 2: return Integer.MIN_VALUE;
            case 3: return Integer.MAX_VALUE;
            default: return -1;
        }
    }

    private void due(String call, int got, int want) {
        done.add(call + " = " + got);
        if (got != want) {
            wrong++;
            System.out.println(call + " answered " + got + ", due is " + want);
        }
    }

    private String part(int depth) {
        if (depth > 0 && chance(15)) {
            return "[" + sum(depth - 1) + "]";
        }
        return chance(45) ? String.valueOf(chance(80) ? below(12) : below(1002)) : WORDS[below(WORDS.length)];
    }

    private String chain(int depth, String[] signs, boolean low) {
        StringBuilder text = new StringBuilder(low ? part(depth) : chain(depth, new String[] {"*", "/"}, true));
        for (int i = 0; i < 8 && chance(30); i++) {
            text.append(chance(50) ? " " : "").append(signs[below(signs.length)]).append(chance(50) ? " " : "");
            text.append(low ? part(depth) : chain(depth, new String[] {"*", "/"}, true));
        }
        return text.toString();
    }

    private String sum(int depth) {
        return chain(depth, new String[] {"+", "-"}, false);
    }

    private String test(int depth) {
        String text;
        if (chance(12)) {
            text = "not " + test(depth);
        } else if (depth > 0 && chance(25)) {
            text = "(" + test(depth - 1) + ")";
        } else {
            text = sum(depth) + "<>=".charAt(below(3)) + sum(depth);
        }
        return chance(25) ? text + (chance(50) ? " and " : " or ") + test(depth) : text;
    }

    private String clause() {
        String[] heads = {"steps ", "rank ", "loud ", "balks", "follows"};
        int head = below(5);
        String text = heads[head] + (head < 3 ? sum(3) : "");
        return chance(head < 3 ? 45 : 90) ? text + " if " + test(3) : text;
    }

    private String lawText() {
        StringBuilder text = new StringBuilder(clause());
        for (int i = 0; i < 13 && chance(70); i++) {
            text.append(chance(50) ? ";" : " ; ").append(clause());
        }
        if (chance(15)) {
            int at = below(text.length());
            switch (below(4)) {
                case 0: text.deleteCharAt(at); break;
                case 1: text.insert(at, (char) below(256)); break;
                case 2: text.setCharAt(at, " ;[]()+-*/<=>0a".charAt(below(15))); break;
                default: text.setLength(at);
            }
        }
        if (chance(3)) {
            text.setLength(0);
            text.append("                    ", 0, below(21));
        }
        if (chance(3)) {
            text.append(" if");
            for (int i = 0; i < 8; i++) {
                text.append(chance(50) ? "(" : " not (");
            }
            text.append("[1]>0))))))))");
        }
        return text.length() > 400 ? text.substring(0, 400) : text.toString();
    }

    private void tape(byte[] bytes) {
        for (int from = 0; from < bytes.length; from += 20) {
            int[] five = new int[5];
            for (int i = 0; i < 20; i++) {
                int b = from + i < bytes.length ? bytes[from + i] & 255 : 32;
                five[i / 4] |= b << 24 - i % 4 * 8;
            }
            due("feed", herd.feed(five[0], five[1], five[2], five[3], five[4]),
                    plain.feed(five[0], five[1], five[2], five[3], five[4]));
        }
        due("end", herd.end(bytes.length), plain.end(bytes.length));
    }

    private void tapeLaw() {
        due("end", herd.end(0), plain.end(0));
        tape(lawText().getBytes(StandardCharsets.ISO_8859_1));
        due("law", herd.law(), plain.law());
        due("fault", herd.fault(), plain.fault());
        if (chance(70)) {
            int law = number(0, 5);
            due("force " + law, herd.force(law), plain.force(law));
        }
    }

    private void tapeRow() {
        int what = number(0, 2);
        int of = what == 0 ? number(0, 4) : what == 1 ? number(0, 3) : 0;
        int long9 = chance(5) ? 30 : what == 0 ? longestWay : what == 1 ? 5 : 8;
        byte[] bytes = new byte[1 + below(long9)];
        int notes = 2 + below(5);
        for (int i = 0; i < bytes.length; i++) {
            bytes[i] = (byte) (chance(4) ? below(256) : what == 0 ? below(chance(80) ? 14 : 64) : 5 + below(notes));
        }
        if (chance(95)) {
            due("end", herd.end(0), plain.end(0));
            tape(bytes);
        }
        due("row " + what + " " + of, herd.row(what, of), plain.row(what, of));
        due("lost", herd.lost(), plain.lost());
    }

    private void change() {
        int a = number(0, 4);
        switch (below(20)) {
            case 0: {
                int note = number(3, 11);
                int pace = number(1, 3);
                int fear = number(0, 9);
                int age = number(0, 30);
                due("cow", herd.cow(note, pace, fear, age), plain.cow(note, pace, fear, age));
                break;
            }
            case 1: {
                int what = number(0, 4);
                int value = chance(60) ? below(2) + (what == 2 ? 1 : what == 0 ? 5 : 0) : number(0, 30);
                due("put", herd.put(a, what, value), plain.put(a, what, value));
                break;
            }
            case 2: case 3: {
                int left = number(0, longestWay);
                due("left " + a + " " + left, herd.left(a, left), plain.left(a, left));
                break;
            }
            case 4: {
                int wind = number(0, 3);
                due("wind", herd.wind(wind), plain.wind(wind));
                break;
            }
            case 5: {
                int cell = number(0, chance(80) ? 14 : 63);
                if (chance(50)) {
                    due("gap " + cell, herd.gap(cell), plain.gap(cell));
                }
                break;
            }
            case 6: case 7: {
                int bits = chance(80) ? below(1 << plain.s.gaps.size()) : number(0, 31);
                due("guard " + bits, herd.guard(bits), plain.guard(bits));
                break;
            }
            case 8: case 9: tapeLaw(); break;
            case 10: case 11: case 12: tapeRow(); break;
            case 13: case 14: due("order " + a, herd.order(a), plain.order(a)); break;
            case 15: {
                int tune = number(0, 3);
                if (chance(70)) {
                    due("lead", herd.lead(tune), plain.lead(tune));
                } else {
                    due("cast", herd.cast(tune), plain.cast(tune));
                }
                break;
            }
            case 16: {
                int note = number(4, 9);
                int loud = number(0, 9);
                due("ear", herd.ear(note, loud), plain.ear(note, loud));
                if (chance(3)) {
                    due("deaf", herd.deaf(), plain.deaf());
                }
                break;
            }
            case 17: {
                int seed = number(0, 1_000_000);
                int rounds = number(0, chance(50) ? 5 : 200);
                due("fog", herd.fog(seed, rounds), plain.fog(seed, rounds));
                break;
            }
            case 18: {
                int k = number(0, 1);
                if (chance(40)) {
                    due("image " + k, herd.image(k), plain.image(k));
                } else if (chance(40)) {
                    due("back " + k, herd.back(k), plain.back(k));
                } else if (chance(30)) {
                    due("clear", herd.clear(), plain.clear());
                } else {
                    int law = number(-1, 5);
                    due("force " + law, herd.force(law), plain.force(law));
                }
                break;
            }
            default: due("call " + a, herd.call(a), plain.call(a));
        }
        due("status", herd.status(), plain.status());
    }

    private void look() {
        int a = number(0, 4);
        int b = number(0, 4);
        int what = number(0, 2);
        int tune = number(0, 3);
        switch (below(18)) {
            case 0: {
                int w = number(0, 7);
                due("of " + a + " " + w, herd.of(a, w), plain.of(a, w));
                break;
            }
            case 1: due("cell " + a + " " + b, herd.cell(a, b), plain.cell(a, b)); break;
            case 2: {
                int i = number(-1, 12);
                int which = number(0, 4);
                due("note", herd.note(which, i), plain.note(which, i));
                break;
            }
            case 3: due("who " + b + " " + what, herd.who(b, what), plain.who(b, what)); break;
            case 4: due("unlawful", herd.unlawful(), plain.unlawful()); break;
            case 5: case 6: due("would " + a + " " + b, herd.would(a, b), plain.would(a, b)); break;
            case 7: case 8: {
                for (int w = 0; w < 3; w++) {
                    due("drive " + w, herd.drive(w), plain.drive(w));
                }
                due("drive " + what, herd.drive(what), plain.drive(what));
                int i = number(0, isLong ? 26 : 5);
                due("calls " + i, herd.calls(i), plain.calls(i));
                break;
            }
            case 9: due("dogs", herd.dogs(), plain.dogs()); break;
            case 10: due("rung " + tune, herd.rung(tune), plain.rung(tune)); break;
            case 11: due("recast " + tune + " " + what, herd.recast(tune, what), plain.recast(tune, what)); break;
            case 12: due("hoof " + tune + " " + a, herd.hoof(tune, a), plain.hoof(tune, a)); break;
            case 13: due("sold", herd.sold(), plain.sold()); break;
            case 14: due("slips " + tune + " " + what, herd.slips(tune, what), plain.slips(tune, what)); break;
            case 15: due("hymn", herd.hymn(), plain.hymn()); break;
            case 16: due("likely " + a + " " + b, herd.likely(a, b), plain.likely(a, b)); break;
            default: {
                int w = number(0, 12);
                due("count " + w, herd.count(w), plain.count(w));
                due("drawn " + a, herd.drawn(a), plain.drawn(a));
            }
        }
    }

    /** A herd that can mostly be driven home: WAYS for all, all in the ORDER, GAPS, a LAW by which cows follow. */
    private void setOut(int many) {
        int[] notes = {4, 5, 6, 7, 8, 9};
        byte[] tune = new byte[many];
        for (int cow = 0; cow < many; cow++) {
            tune[cow] = (byte) notes[below(6)];
            byte[] way = new byte[1 + below(longestWay + 1)];
            for (int i = 0; i < way.length; i++) {
                way[i] = (byte) (chance(70) ? cow * 10 + i : below(50));
            }
            tape(way);
            due("row 0 " + cow, herd.row(0, cow), plain.row(0, cow));
        }
        for (int i = 0; i < 2 * many; i++) {
            int cow = below(many);
            due("order " + cow, herd.order(cow), plain.order(cow));
        }
        for (int row = 0; row < 4; row++) {
            tune[below(many)] = (byte) notes[below(6)];
            tape(tune);
            due("row 1 " + row, herd.row(1, row), plain.row(1, row));
        }
        tape(tune);
        due("row 2 0", herd.row(2, 0), plain.row(2, 0));
        String law = "steps pace;follows if called " + "<>=".charAt(below(3)) + " cow;balks if " + test(1)
                + " and left > 1 and wind = " + below(4) + ";loud [left+1]*heard;rank " + sum(1);
        tape(law.getBytes(StandardCharsets.ISO_8859_1));
        due("law", herd.law(), plain.law());
        if (chance(70)) {
            due("force 0", herd.force(0), plain.force(0));
        }
        for (int i = 0; i < 3; i++) {
            int cell = below(many) * 10 + below(longestWay);
            due("gap " + cell, herd.gap(cell), plain.gap(cell));
        }
    }

    private boolean isRight() {
        int many = 1 + below(isLong ? 3 : 5);
        for (int i = 0; i < many; i++) {
            int note = 4 + below(6);
            due("cow", herd.cow(note, 1 + i % 3, i, 3 * i), plain.cow(note, 1 + i % 3, i, 3 * i));
        }
        boolean set = chance(50);
        if (set) {
            setOut(many);
        }
        for (int i = 0; i < CALLS && wrong == 0; i++) {
            if (!set && i < 40 || chance(set ? 25 : 45)) {
                change();
            } else {
                look();
            }
        }
        if (wrong != 0) {
            done.subList(0, Math.max(0, done.size() - 40)).clear();
            System.out.println(done);
        }
        return wrong == 0;
    }

    public static void main(String[] args) {
        long first = Long.getLong("seed", 1);
        int runs = Integer.getInteger("runs", 300);
        int bad = 0;
        for (long seed = first; seed < first + runs && bad < 3; seed++) {
            if (!new RandomRunsTest(seed, false).isRight() || seed % 5 == 0 && !new RandomRunsTest(seed, true).isRight()) {
                bad++;
                System.out.println("by seed " + seed);
            }
        }
        System.out.println(bad == 0 ? "all " + runs + " drawn runs are as due" : "drawn runs are not as due");
        if (bad != 0) {
            System.exit(1);
        }
    }
}
