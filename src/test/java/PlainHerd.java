import java.math.BigInteger;
import java.util.ArrayDeque;
import java.util.ArrayList;
import java.util.Arrays;
import java.util.Collections;
import java.util.HashMap;
import java.util.List;
import java.util.Map;

/**
 * The document said over in the plainest Java, with the whole library and no care for time or room:
 * what BellHerd answers is held against it. It shares no code and, where it can be had, no method with the class.
 */
final class PlainHerd {
    static final class Cow implements Cloneable {
        int[] traits = new int[5];
        List<Integer> way = new ArrayList<>();
        int left;

        Cow copy() {
            Cow c = new Cow();
            c.traits = traits.clone();
            c.way = new ArrayList<>(way);
            c.left = left;
            return c;
        }
    }

    static final class State {
        List<Cow> cows = new ArrayList<>();
        int wind;
        List<Integer> gaps = new ArrayList<>();
        int guarded;
        List<List<Integer>> rows = new ArrayList<>();
        List<List<Clause>> laws = new ArrayList<>();
        int force = -1;
        List<Integer> order = new ArrayList<>();
        List<int[]> ears = new ArrayList<>();

        State() {
            for (int i = 0; i < 5; i++) {
                rows.add(new ArrayList<>());
            }
        }

        State copy() {
            State s = new State();
            for (Cow c : cows) {
                s.cows.add(c.copy());
            }
            s.wind = wind;
            s.gaps.addAll(gaps);
            s.guarded = guarded;
            for (int i = 0; i < 5; i++) {
                s.rows.set(i, new ArrayList<>(rows.get(i)));
            }
            s.laws.addAll(laws);
            s.force = force;
            s.order.addAll(order);
            s.ears.addAll(ears);
            return s;
        }
    }

    /** Thrown where something is BROKEN. */
    static final class Broken extends RuntimeException {
        private static final long serialVersionUID = 1;
    }

    /** Thrown where a TEXT has its FAULT. */
    static final class Fault extends RuntimeException {
        private static final long serialVersionUID = 1;
        final int place;

        Fault(int place) {
            this.place = place;
        }
    }

    interface Sum {
        BigInteger of(Map<String, Integer> words);
    }

    interface Test {
        boolean of(Map<String, Integer> words);
    }

    static final class Clause {
        String head;
        Sum sum;
        Test test;
    }

    /** A TEXT by the grammar's own words, one method a rule. */
    static final class Parser {
        final List<String> tokens = new ArrayList<>();
        final List<Integer> places = new ArrayList<>();
        int at;
        int parts;
        int brackets;

        Parser(String text) {
            for (int i = 0; i < text.length();) {
                int j = i + 1;
                if (text.charAt(i) == ' ') {
                    i++;
                    continue;
                }
                for (String set : new String[] {"abcdefghijklmnopqrstuvwxyz", "0123456789"}) {
                    if (set.indexOf(text.charAt(i)) >= 0) {
                        while (j < text.length() && set.indexOf(text.charAt(j)) >= 0) {
                            j++;
                        }
                    }
                }
                tokens.add(text.substring(i, j));
                places.add(i);
                i = j;
            }
            tokens.add("");
            places.add(text.length());
        }

        boolean is(String token) {
            return tokens.get(at).equals(token);
        }

        Fault fault() {
            return new Fault(places.get(at));
        }

        void want(String token) {
            if (!is(token)) {
                throw fault();
            }
            at++;
        }

        List<Clause> law() {
            List<Clause> clauses = new ArrayList<>();
            clauses.add(clause());
            while (is(";")) {
                at++;
                if (clauses.size() == 12) {
                    throw fault();
                }
                clauses.add(clause());
            }
            if (at != tokens.size() - 1) {
                throw fault();
            }
            return clauses;
        }

        Clause clause() {
            Clause c = new Clause();
            c.head = tokens.get(at);
            if (!List.of("steps", "rank", "loud", "balks", "follows").contains(c.head)) {
                throw fault();
            }
            at++;
            if (List.of("steps", "rank", "loud").contains(c.head)) {
                c.sum = sum();
            }
            if (is("if")) {
                at++;
                c.test = test();
            }
            return c;
        }

        Test test() {
            Test a = both();
            while (is("or")) {
                at++;
                Test left = a;
                Test right = both();
                a = w -> left.of(w) || right.of(w);
            }
            return a;
        }

        Test both() {
            Test a = plain();
            while (is("and")) {
                at++;
                Test left = a;
                Test right = plain();
                a = w -> left.of(w) && right.of(w);
            }
            return a;
        }

        Test plain() {
            if (is("not")) {
                at++;
                Test inner = plain();
                return w -> !inner.of(w);
            }
            if (is("(")) {
                enter();
                Test inner = test();
                want(")");
                brackets--;
                return inner;
            }
            Sum a = sum();
            String sign = tokens.get(at);
            if (!List.of("<", ">", "=").contains(sign)) {
                throw fault();
            }
            at++;
            Sum b = sum();
            return w -> {
                int c = a.of(w).compareTo(b.of(w));
                return sign.equals("<") ? c < 0 : sign.equals(">") ? c > 0 : c == 0;
            };
        }

        void enter() {
            if (brackets == 8) {
                throw fault();
            }
            brackets++;
            at++;
        }

        Sum sum() {
            Sum a = term();
            while (is("+") || is("-")) {
                boolean plus = is("+");
                at++;
                Sum left = a;
                Sum right = term();
                a = w -> within(plus ? left.of(w).add(right.of(w)) : left.of(w).subtract(right.of(w)));
            }
            return a;
        }

        Sum term() {
            Sum a = part();
            while (is("*") || is("/")) {
                boolean times = is("*");
                at++;
                Sum left = a;
                Sum right = part();
                a = w -> {
                    BigInteger x = left.of(w);
                    BigInteger y = right.of(w);
                    if (!times && y.signum() == 0) {
                        throw new Broken();
                    }
                    return within(times ? x.multiply(y) : x.divide(y));
                };
            }
            return a;
        }

        Sum part() {
            if (is("[")) {
                enter();
                Sum inner = sum();
                want("]");
                brackets--;
                return inner;
            }
            String token = tokens.get(at);
            boolean word = List.of("cow", "note", "pace", "fear", "age", "left", "called", "wind", "home", "heard")
                    .contains(token);
            boolean number = token.matches("[0-9]+") && new BigInteger(token).compareTo(BigInteger.valueOf(1000)) <= 0;
            if (!word && !number || parts == 50) {
                throw fault();
            }
            parts++;
            at++;
            return word ? w -> BigInteger.valueOf(w.get(token)) : w -> new BigInteger(token);
        }

        static BigInteger within(BigInteger x) {
            if (x.abs().compareTo(BigInteger.valueOf(1_000_000_000)) > 0) {
                throw new Broken();
            }
            return x;
        }
    }

    State s = new State();
    State[] images = new State[2];
    StringBuilder tape = new StringBuilder();
    int fault = -1;
    int lost;
    int status;
    int[] refusals = new int[7];
    List<Integer> fogged = new ArrayList<>();

    private int no(int by) {
        refusals[-by]++;
        status = by;
        return by;
    }

    private int yes(int answer) {
        status = 0;
        return answer;
    }

    private static boolean in(int x, int from, int to) {
        return from <= x && x <= to;
    }

    private static boolean isTrait(int what, int value) {
        switch (what) {
            case 0: return in(value, 0, 23);
            case 1: return in(value, 0, 1);
            case 2: return in(value, 1, 3);
            case 3: return in(value, 0, 9);
            case 4: return in(value, 0, 30);
            default: return false;
        }
    }

    private boolean isCow(int cow) {
        return in(cow, 0, s.cows.size() - 1);
    }

    private static int cellOf(Cow c, int left) {
        return left == 0 ? -1 : c.way.get(c.way.size() - left);
    }

    /** Whether another one than cow, at these LEFTS, stands in a CELL. */
    private boolean stood(int[] lefts, int cow, int cell) {
        for (int i = 0; i < lefts.length; i++) {
            if (i != cow && lefts[i] > 0 && cellOf(s.cows.get(i), lefts[i]) == cell) {
                return true;
            }
        }
        return false;
    }

    private int[] lefts() {
        return s.cows.stream().mapToInt(c -> c.left).toArray();
    }

    private static int homes(int[] lefts) {
        return (int) Arrays.stream(lefts).filter(x -> x == 0).count();
    }

    int cow(int note, int pace, int fear, int age) {
        if (!isTrait(0, note) || !isTrait(2, pace) || !isTrait(3, fear) || !isTrait(4, age)) {
            return no(-1);
        }
        if (s.cows.size() == 5) {
            return no(-5);
        }
        Cow c = new Cow();
        c.traits = new int[] {note, 0, pace, fear, age};
        s.cows.add(c);
        return yes(s.cows.size() - 1);
    }

    int put(int cow, int what, int value) {
        if (!isTrait(what, value)) {
            return no(-1);
        }
        if (!isCow(cow)) {
            return no(-2);
        }
        int was = s.cows.get(cow).traits[what];
        s.cows.get(cow).traits[what] = value;
        return yes(was);
    }

    int left(int cow, int left) {
        if (!isCow(cow)) {
            return no(-2);
        }
        Cow c = s.cows.get(cow);
        if (!in(left, 0, c.way.size())) {
            return no(-1);
        }
        if (left > 0 && stood(lefts(), cow, cellOf(c, left))) {
            return no(-3);
        }
        int was = c.left;
        c.left = left;
        return yes(was);
    }

    int of(int cow, int what) {
        if (!isCow(cow) || !in(what, 0, 7)) {
            return -1;
        }
        Cow c = s.cows.get(cow);
        if (what < 5) {
            return c.traits[what];
        }
        return what == 5 ? c.left : what == 6 ? c.way.size() : cellOf(c, c.left);
    }

    int cell(int cow, int i) {
        return isCow(cow) && in(i, 0, s.cows.get(cow).way.size() - 1) ? s.cows.get(cow).way.get(i) : -1;
    }

    int wind(int wind) {
        if (!in(wind, 0, 3)) {
            return no(-1);
        }
        int was = s.wind;
        s.wind = wind;
        return yes(was);
    }

    int gap(int cell) {
        if (!in(cell, 0, 63)) {
            return no(-1);
        }
        if (s.gaps.contains(cell)) {
            return no(-3);
        }
        if (s.gaps.size() == 5) {
            return no(-5);
        }
        s.gaps.add(cell);
        return yes(s.gaps.size());
    }

    int guard(int gaps) {
        if (gaps < 0 || gaps >> s.gaps.size() != 0) {
            return no(-1);
        }
        int was = s.guarded;
        s.guarded = gaps;
        return yes(was);
    }

    int feed(int a, int b, int c, int d, int e) {
        if (tape.length() + 20 > 400) {
            return -1;
        }
        for (int x : new int[] {a, b, c, d, e}) {
            for (byte y : BigInteger.valueOf(x & 0xFFFFFFFFL | 0x100000000L).toByteArray()) {
                tape.append((char) (y & 255));
            }
            tape.deleteCharAt(tape.length() - 5);
        }
        return tape.length();
    }

    int end(int n) {
        if (!in(n, 0, tape.length())) {
            return -1;
        }
        tape.setLength(n);
        return n;
    }

    int row(int what, int of) {
        if (!in(what, 0, 2) || what == 1 && !in(of, 0, 3) || what == 2 && of != 0) {
            return no(-1);
        }
        if (what == 0 && !isCow(of)) {
            return no(-2);
        }
        String bytes = tape.toString();
        tape.setLength(0);
        List<Integer> row = new ArrayList<>();
        int room = what == 0 ? 9 : what == 1 ? 12 : 24;
        for (char b : bytes.toCharArray()) {
            boolean can = what == 0 ? b < 64 && !row.contains((int) b) : b < 24;
            if (can && row.size() < room) {
                row.add((int) b);
            }
        }
        if (what == 0 && !row.isEmpty() && stood(lefts(), of, row.get(0))) {
            return no(-3);
        }
        if (bytes.isEmpty()) {
            return no(-6);
        }
        lost = bytes.length() - row.size();
        if (what == 0) {
            s.cows.get(of).way = row;
            s.cows.get(of).left = row.size();
        } else {
            s.rows.set(what == 1 ? of : 4, row);
        }
        return yes(row.size());
    }

    int lost() {
        return lost;
    }

    int note(int which, int i) {
        if (!in(which, 0, 4)) {
            return -1;
        }
        List<Integer> row = s.rows.get(which);
        return i == -1 ? row.size() : in(i, 0, row.size() - 1) ? row.get(i) : -1;
    }

    int law() {
        String text = tape.toString();
        tape.setLength(0);
        if (s.laws.size() == 6) {
            return no(-5);
        }
        try {
            s.laws.add(new Parser(text).law());
            fault = -1;
            return yes(s.laws.size() - 1);
        } catch (Fault f) {
            fault = f.place;
            return no(-6);
        }
    }

    int fault() {
        return fault;
    }

    int force(int law) {
        if (!in(law, -1, s.laws.size() - 1)) {
            return no(-2);
        }
        int was = s.force;
        s.force = law;
        return yes(was);
    }

    int order(int cow) {
        if (!isCow(cow)) {
            return no(-2);
        }
        if (s.order.contains(cow)) {
            return no(-3);
        }
        s.order.add(cow);
        return yes(s.order.size());
    }

    int clear() {
        int n = s.order.size();
        s.order.clear();
        return n;
    }

    /** What a HEAD tells of a COW, null without; of "balks" and "follows" anything if one HOLDS. */
    private BigInteger told(String head, int cow, int left, int called, int home, int heard) {
        BigInteger told = null;
        if (s.force < 0) {
            return null;
        }
        int[] t = s.cows.get(cow).traits;
        Map<String, Integer> words = new HashMap<>();
        words.put("cow", cow);
        words.put("note", t[1] == 1 ? -1 : t[0]);
        words.put("pace", t[2]);
        words.put("fear", t[3]);
        words.put("age", t[4]);
        words.put("left", left);
        words.put("called", called);
        words.put("wind", s.wind);
        words.put("home", home);
        words.put("heard", heard);
        for (Clause c : s.laws.get(s.force)) {
            if (c.head.equals(head)) {
                try {
                    BigInteger sum = c.sum == null ? BigInteger.ONE : c.sum.of(words);
                    if (c.test == null || c.test.of(words)) {
                        told = sum;
                    }
                } catch (Broken b) {
                    continue;
                }
            }
        }
        return told;
    }

    private List<Integer> ranks() {
        List<Integer> all = new ArrayList<>();
        List<BigInteger> by = new ArrayList<>();
        for (int c = 0; c < s.cows.size(); c++) {
            BigInteger t = told("rank", c, s.cows.get(c).left, -1, homes(lefts()), 0);
            by.add(t == null ? BigInteger.ZERO : t);
            all.add(c);
        }
        Collections.sort(all, (a, b) -> by.get(a).compareTo(by.get(b)));
        return all;
    }

    int who(int i, int what) {
        if (!in(what, 0, 1)) {
            return -1;
        }
        List<Integer> row = what == 0 ? s.order : ranks();
        return in(i, 0, row.size() - 1) ? row.get(i) : -1;
    }

    int unlawful() {
        List<Integer> ranks = ranks();
        int n = 0;
        for (int a : s.order) {
            for (int b : s.order) {
                if (s.order.indexOf(a) < s.order.indexOf(b) && ranks.indexOf(a) > ranks.indexOf(b)) {
                    n++;
                }
            }
        }
        return n;
    }

    /** LEFTS behind a CALL, null if it can't be. */
    private int[] called(int[] from, int called, int guarded) {
        int[] l = from.clone();
        if (l[called] == 0) {
            return null;
        }
        if (told("balks", called, l[called], called, homes(l), 0) == null) {
            BigInteger t = told("steps", called, l[called], called, homes(l), 0);
            int steps = t == null ? s.cows.get(called).traits[2]
                    : t.max(BigInteger.ZERO).min(BigInteger.valueOf(3)).intValue();
            for (int i = 0; i < steps; i++) {
                if (!on(l, called)) {
                    return null;
                }
            }
        }
        for (int c = 0; c < l.length; c++) {
            if (c != called && l[c] > 0 && told("follows", c, l[c], called, homes(l), 0) != null
                    && told("balks", c, l[c], called, homes(l), 0) == null && !on(l, c)) {
                return null;
            }
        }
        for (int c = 0; c < l.length; c++) {
            int gap = l[c] == 0 ? -1 : s.gaps.indexOf(cellOf(s.cows.get(c), l[c]));
            if (gap >= 0 && (guarded >> gap & 1) == 0) {
                return null;
            }
        }
        return l;
    }

    /** One goes on by a CELL, if it can; false if it comes HOME when it is not to. */
    private boolean on(int[] l, int c) {
        if (l[c] == 0 || l[c] > 1 && stood(l, c, cellOf(s.cows.get(c), l[c] - 1))) {
            return true;
        }
        if (l[c] == 1) {
            int next = s.order.stream().filter(x -> l[x] > 0).findFirst().orElse(-1);
            if (next != c) {
                return false;
            }
        }
        l[c]--;
        return true;
    }

    int call(int cow) {
        if (!isCow(cow)) {
            return no(-2);
        }
        int[] now = lefts();
        int[] then = called(now, cow, s.guarded);
        if (then == null) {
            return no(-3);
        }
        for (int c = 0; c < then.length; c++) {
            s.cows.get(c).left = then[c];
        }
        return yes(Arrays.stream(now).sum() - Arrays.stream(then).sum());
    }

    int would(int called, int cow) {
        if (!isCow(called) || !isCow(cow)) {
            return -1;
        }
        int[] then = called(lefts(), called, s.guarded);
        return then == null ? -1 : then[cow];
    }

    private static List<Integer> key(int[] l) {
        List<Integer> k = new ArrayList<>();
        for (int x : l) {
            k.add(x);
        }
        return k;
    }

    private boolean arrived(int[] l) {
        return s.order.stream().allMatch(c -> l[c] == 0);
    }

    /** By breadth: {fewest or -1, how many ways, stands} and the FIRST behind these. */
    private List<Integer> drives(int guarded) {
        Map<List<Integer>, Integer> far = new HashMap<>();
        Map<List<Integer>, BigInteger> ways = new HashMap<>();
        Map<List<Integer>, List<Integer>> first = new HashMap<>();
        ArrayDeque<int[]> queue = new ArrayDeque<>();
        int[] start = lefts();
        far.put(key(start), 0);
        ways.put(key(start), BigInteger.ONE);
        first.put(key(start), new ArrayList<>());
        queue.add(start);
        int fewest = -1;
        BigInteger many = BigInteger.ZERO;
        List<Integer> best = new ArrayList<>();
        while (!queue.isEmpty()) {
            int[] l = queue.remove();
            List<Integer> k = key(l);
            if (arrived(l) && (fewest < 0 || fewest == far.get(k))) {
                if (fewest < 0 || compare(first.get(k), best) < 0) {
                    best = first.get(k);
                }
                fewest = far.get(k);
                many = many.add(ways.get(k));
            }
            for (int c = 0; c < l.length; c++) {
                int[] then = called(l, c, guarded);
                if (then == null) {
                    continue;
                }
                List<Integer> n = key(then);
                List<Integer> row = new ArrayList<>(first.get(k));
                row.add(c);
                if (!far.containsKey(n)) {
                    far.put(n, far.get(k) + 1);
                    ways.put(n, BigInteger.ZERO);
                    first.put(n, row);
                    queue.add(then);
                }
                if (far.get(n) == far.get(k) + 1) {
                    ways.put(n, ways.get(n).add(ways.get(k)));
                    if (compare(row, first.get(n)) < 0) {
                        first.put(n, row);
                    }
                }
            }
        }
        List<Integer> answer = new ArrayList<>();
        answer.add(fewest);
        answer.add(many.min(BigInteger.valueOf(1_000_000_000)).intValue());
        answer.add(far.size());
        answer.addAll(best);
        return answer;
    }

    private static int compare(List<Integer> a, List<Integer> b) {
        for (int i = 0; i < Math.min(a.size(), b.size()); i++) {
            if (!a.get(i).equals(b.get(i))) {
                return a.get(i) - b.get(i);
            }
        }
        return a.size() - b.size();
    }

    int drive(int what) {
        return in(what, 0, 2) ? drives(s.guarded).get(what) : -1;
    }

    int calls(int i) {
        List<Integer> d = drives(s.guarded);
        return in(i, 0, d.get(0) - 1) ? d.get(3 + i) : -1;
    }

    int dogs() {
        int best = -1;
        for (int g = 0; g < 1 << s.gaps.size(); g++) {
            if ((best < 0 || Integer.bitCount(g) < Integer.bitCount(best)) && drives(g).get(0) >= 0) {
                best = g;
            }
        }
        return best;
    }

    private List<Integer> led(int tune, int without) {
        List<Integer> led = new ArrayList<>();
        for (int note : s.rows.get(tune)) {
            for (int c = 0; c < s.cows.size(); c++) {
                int[] t = s.cows.get(c).traits;
                if (c != without && !led.contains(c) && t[0] == note && t[1] == 0) {
                    led.add(c);
                    break;
                }
            }
        }
        return led;
    }

    int lead(int tune) {
        if (!in(tune, 0, 3)) {
            return no(-1);
        }
        s.order = led(tune, -1);
        return yes(s.order.size());
    }

    int rung(int tune) {
        return !in(tune, 0, 3) ? -1 : led(tune, -1).size() == s.rows.get(tune).size() ? 1 : 0;
    }

    /** All rows of COWS, NOTE by NOTE, that can be. */
    private void gifts(int tune, int without, List<Integer> row, List<List<Integer>> all) {
        List<Integer> notes = s.rows.get(tune);
        if (row.size() == notes.size()) {
            all.add(new ArrayList<>(row));
            return;
        }
        for (int c = 0; c < s.cows.size(); c++) {
            int[] t = s.cows.get(c).traits;
            if (c != without && !row.contains(c) && t[1] == 0 && t[0] <= notes.get(row.size())) {
                row.add(c);
                gifts(tune, without, row, all);
                row.remove(row.size() - 1);
            }
        }
    }

    private int cost(int tune, List<Integer> row) {
        int n = 0;
        for (int i = 0; i < row.size(); i++) {
            n += s.cows.get(row.get(i)).traits[0] == s.rows.get(tune).get(i) ? 0 : 1;
        }
        return n;
    }

    private List<List<Integer>> fewest(int tune, int without) {
        List<List<Integer>> all = new ArrayList<>();
        gifts(tune, without, new ArrayList<>(), all);
        int least = all.stream().mapToInt(r -> cost(tune, r)).min().orElse(0);
        all.removeIf(r -> cost(tune, r) > least);
        Collections.sort(all, PlainHerd::compare);
        return all;
    }

    int recast(int tune, int what) {
        if (!in(tune, 0, 3) || !in(what, 0, 1)) {
            return -1;
        }
        List<List<Integer>> all = fewest(tune, -1);
        return what == 1 ? all.size() : all.isEmpty() ? -1 : cost(tune, all.get(0));
    }

    int hoof(int tune, int i) {
        if (!in(tune, 0, 3) || !in(i, 0, s.rows.get(tune).size() - 1)) {
            return -1;
        }
        List<List<Integer>> all = fewest(tune, -1);
        return all.isEmpty() ? -1 : all.get(0).get(i);
    }

    int cast(int tune) {
        if (!in(tune, 0, 3)) {
            return no(-1);
        }
        List<List<Integer>> all = fewest(tune, -1);
        if (all.isEmpty()) {
            return no(-3);
        }
        int cost = cost(tune, all.get(0));
        for (int i = 0; i < all.get(0).size(); i++) {
            s.cows.get(all.get(0).get(i)).traits[0] = s.rows.get(tune).get(i);
        }
        return yes(cost);
    }

    int sold() {
        int best = -1;
        int bestKey = 0;
        for (int c = 0; c < s.cows.size(); c++) {
            int key = 0;
            for (int t = 0; t < 4; t++) {
                int n = s.rows.get(t).size();
                if (n > 0) {
                    List<List<Integer>> all = fewest(t, c);
                    key += led(t, c).size() == n ? 1000 : 0;
                    key -= all.isEmpty() ? 13 : cost(t, all.get(0));
                }
            }
            if (best < 0 || key > bestKey) {
                best = c;
                bestKey = key;
            }
        }
        return best;
    }

    /** {fewest, in how many ways} from the i-th of HEARD and the j-th of a TUNE on. */
    private BigInteger[] slipsFrom(List<Integer> h, List<Integer> t, int i, int j, Map<Integer, BigInteger[]> known) {
        if (i == h.size() && j == t.size()) {
            return new BigInteger[] {BigInteger.ZERO, BigInteger.ONE};
        }
        BigInteger[] best = known.get(i * 100 + j);
        if (best != null) {
            return best;
        }
        best = new BigInteger[] {BigInteger.valueOf(1000), BigInteger.ZERO};
        int[][] moves = {{1, 0, 1}, {0, 1, 1}, {1, 1, 1}, {2, 2, 1}};
        for (int[] m : moves) {
            int a = i + m[0];
            int b = j + m[1];
            if (a > h.size() || b > t.size()) {
                continue;
            }
            int slip = m[2];
            if (m[0] == 1 && m[1] == 1 && h.get(i).equals(t.get(j))) {
                slip = 0;
            }
            if (m[0] == 2 && !(h.get(i).equals(t.get(j + 1)) && h.get(i + 1).equals(t.get(j)))) {
                continue;
            }
            BigInteger[] rest = slipsFrom(h, t, a, b, known);
            BigInteger cost = rest[0].add(BigInteger.valueOf(slip));
            if (cost.compareTo(best[0]) < 0) {
                best = new BigInteger[] {cost, BigInteger.ZERO};
            }
            if (cost.equals(best[0])) {
                best[1] = best[1].add(rest[1]);
            }
        }
        known.put(i * 100 + j, best);
        return best;
    }

    int slips(int tune, int what) {
        if (!in(tune, 0, 3) || !in(what, 0, 1)) {
            return -1;
        }
        return slipsFrom(s.rows.get(4), s.rows.get(tune), 0, 0, new HashMap<>())[what]
                .min(BigInteger.valueOf(1_000_000_000)).intValue();
    }

    int hymn() {
        int best = -1;
        for (int t = 0; t < 4; t++) {
            if (!s.rows.get(t).isEmpty() && (best < 0 || slips(t, 0) < slips(best, 0))) {
                best = t;
            }
        }
        return best;
    }

    int ear(int note, int loud) {
        if (!in(note, 0, 23) || !in(loud, 0, 9)) {
            return no(-1);
        }
        if (s.ears.size() == 20) {
            return no(-5);
        }
        s.ears.add(new int[] {note, loud});
        return yes(s.ears.size());
    }

    int deaf() {
        int n = s.ears.size();
        s.ears.clear();
        return n;
    }

    int likely(int cow, int left) {
        if (!isCow(cow) || s.cows.get(cow).traits[1] == 1 || !in(left, 0, s.cows.get(cow).way.size())) {
            return -1;
        }
        BigInteger all = BigInteger.ZERO;
        BigInteger that = null;
        for (int l = 0; l <= s.cows.get(cow).way.size(); l++) {
            BigInteger w = BigInteger.ONE;
            for (int[] ear : s.ears) {
                if (ear[0] == s.cows.get(cow).traits[0]) {
                    BigInteger t = told("loud", cow, l, -1, homes(lefts()), ear[1]);
                    w = w.multiply(t == null ? BigInteger.valueOf(50)
                            : t.max(BigInteger.ZERO).min(BigInteger.valueOf(100)));
                }
            }
            all = all.add(w);
            that = l == left ? w : that;
        }
        return all.signum() == 0 ? -1 : that.multiply(BigInteger.valueOf(1_000_000)).divide(all).intValue();
    }

    int fog(int seed, int rounds) {
        if (!in(seed, 0, 1_000_000) || !in(rounds, 0, 200)) {
            return no(-1);
        }
        int[] l = lefts();
        long x = seed;
        int gone = 0;
        for (int r = 0; r < rounds; r++) {
            for (int c = 0; c < l.length; c++) {
                if (l[c] == 0) {
                    continue;
                }
                x = (x * 1103 + 12345) % 1_000_003;
                Cow cow = s.cows.get(c);
                if (x % 3 == 0 && l[c] < cow.way.size() && !stood(l, c, cellOf(cow, l[c] + 1))) {
                    l[c]++;
                    gone++;
                } else if (x % 3 == 2 && l[c] > 1 && !stood(l, c, cellOf(cow, l[c] - 1))) {
                    l[c]--;
                    gone++;
                }
            }
        }
        fogged = key(l);
        return yes(gone);
    }

    int drawn(int cow) {
        return in(cow, 0, fogged.size() - 1) ? fogged.get(cow) : -1;
    }

    int image(int k) {
        if (!in(k, 0, 1)) {
            return no(-1);
        }
        images[k] = s.copy();
        return yes(0);
    }

    int back(int k) {
        if (!in(k, 0, 1)) {
            return no(-1);
        }
        if (images[k] == null) {
            return no(-2);
        }
        s = images[k].copy();
        return yes(0);
    }

    int count(int what) {
        switch (what) {
            case 0: return s.cows.size();
            case 1: return s.laws.size();
            case 2: return s.gaps.size();
            case 3: return s.order.size();
            case 4: return s.ears.size();
            case 5: return homes(lefts());
            case 6: return tape.length();
            case 7: return refusals[1];
            case 8: return refusals[2];
            case 9: return refusals[3];
            case 10: return refusals[5];
            case 11: return refusals[6];
            case 12: return s.force;
            default: return -1;
        }
    }

    int status() {
        return status;
    }
}
