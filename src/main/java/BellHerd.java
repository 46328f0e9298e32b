import java.util.Arrays;

/** Cows in a fog that are to come home in the order of a tune, as ../shared/DOC.md promises. */
public final class BellHerd {
    public static final int NONE = -1;

    private static final int NO_NUMBER = -1;
    private static final int NO_SUCH = -2;
    private static final int NOT_NOW = -3;
    private static final int NO_ROOM = -5;
    private static final int NO_TEXT = -6;

    private static final int COWS = 5;
    private static final int TRAITS = 5;
    private static final int CELLS = 64;
    private static final int WAY = 9;
    private static final int LEFTS = WAY + 1;
    private static final int GAPS = 5;
    private static final int TUNES = 4;
    private static final int TUNE_NOTES = 12;
    private static final int HEARD_ROW = TUNES;
    private static final int HEARD_NOTES = 24;
    private static final int NOTES = 24;
    private static final int LAWS = 6;
    private static final int TAPE = 400;
    private static final int FED = 20;
    private static final int EARS = 20;
    private static final int LOUDEST = 9;
    private static final int WINDS = 4;
    private static final int IMAGES = 2;
    private static final int HIGHEST_SEED = 1_000_000;
    private static final int MOST_ROUNDS = 200;
    private static final int BILLION = 1_000_000_000;

    /** What the FEWEST of a TUNE that can't be had count as: more than any TUNE can need. */
    private static final int CANT_CAST = TUNE_NOTES + 1;

    private static final int NOTE = 0;
    private static final int CRACKED = 1;
    private static final int PACE = 2;
    private static final int FEAR = 3;
    private static final int AGE = 4;
    private static final int[] LEAST_TRAIT = {0, 0, 1, 0, 0};
    private static final int[] MOST_TRAIT = {23, 1, 3, 9, 30};

    private static final int STEPS = 0;
    private static final int RANK = 1;
    private static final int LOUD = 2;
    private static final int BALKS = 3;
    private static final int FOLLOWS = 4;

    private final Herd herd = new Herd();
    private final Herd[] images = new Herd[IMAGES];
    private final int[] tape = new int[TAPE];
    private int taped;
    private final Reader reader = new Reader();
    private final Judge judge = new Judge();
    private final Paper paper = new Paper(judge);
    private final Drives drives = new Drives(paper);
    private final Foundry foundry = new Foundry();
    private final Listener listener = new Listener();
    private final Odds odds = new Odds();
    private final int[] ranks = new int[COWS];
    private final long[] rankTold = new long[COWS];
    private final int[] fogLeft = new int[COWS];
    private int fogCows;
    private int latestLost;
    private final int[] refusals = new int[-NO_TEXT];
    private int latestRefusal;

    public BellHerd() {
    }

    public int cow(int note, int pace, int fear, int age) {
        if (!isTrait(NOTE, note) || !isTrait(PACE, pace) || !isTrait(FEAR, fear) || !isTrait(AGE, age)) {
            return refused(NO_NUMBER);
        }
        if (herd.cows >= COWS) {
            return refused(NO_ROOM);
        }
        int cow = herd.cows;
        herd.cows++;
        herd.setTrait(cow, NOTE, note);
        herd.setTrait(cow, CRACKED, 0);
        herd.setTrait(cow, PACE, pace);
        herd.setTrait(cow, FEAR, fear);
        herd.setTrait(cow, AGE, age);
        herd.wayLength[cow] = 0;
        herd.left[cow] = 0;
        return taken(cow);
    }

    public int put(int cow, int what, int value) {
        if (!isTrait(what, value)) {
            return refused(NO_NUMBER);
        }
        if (!herd.isCow(cow)) {
            return refused(NO_SUCH);
        }
        int before = herd.trait(cow, what);
        herd.setTrait(cow, what, value);
        return taken(before);
    }

    public int left(int cow, int left) {
        if (!herd.isCow(cow)) {
            return refused(NO_SUCH);
        }
        if (left < 0 || left > herd.wayLength[cow]) {
            return refused(NO_NUMBER);
        }
        if (herd.isTakenByOther(cow, herd.cellAt(cow, left))) {
            return refused(NOT_NOW);
        }
        int before = herd.left[cow];
        herd.left[cow] = left;
        return taken(before);
    }

    public int of(int cow, int what) {
        if (!herd.isCow(cow) || what < 0) {
            return NONE;
        }
        if (what < TRAITS) {
            return herd.trait(cow, what);
        }
        switch (what) {
            case 5:
                return herd.left[cow];
            case 6:
                return herd.wayLength[cow];
            case 7:
                return herd.cellAt(cow, herd.left[cow]);
            default:
                return NONE;
        }
    }

    public int cell(int cow, int i) {
        if (!herd.isCow(cow) || i < 0 || i >= herd.wayLength[cow]) {
            return NONE;
        }
        return herd.cellAt(cow, herd.wayLength[cow] - i);
    }

    public int wind(int wind) {
        if (wind < 0 || wind >= WINDS) {
            return refused(NO_NUMBER);
        }
        int before = herd.wind;
        herd.wind = wind;
        return taken(before);
    }

    public int gap(int cell) {
        if (cell < 0 || cell >= CELLS) {
            return refused(NO_NUMBER);
        }
        if (herd.gapBit(cell) != 0) {
            return refused(NOT_NOW);
        }
        if (herd.gaps >= GAPS) {
            return refused(NO_ROOM);
        }
        herd.gapCell[herd.gaps] = cell;
        herd.gaps++;
        return taken(herd.gaps);
    }

    public int guard(int gaps) {
        if (gaps < 0 || gaps >= 1 << herd.gaps) {
            return refused(NO_NUMBER);
        }
        int before = herd.guarded;
        herd.guarded = gaps;
        return taken(before);
    }

    public int feed(int a, int b, int c, int d, int e) {
        if (taped + FED > TAPE) {
            return NONE;
        }
        tapeNumber(a);
        tapeNumber(b);
        tapeNumber(c);
        tapeNumber(d);
        tapeNumber(e);
        return taped;
    }

    private void tapeNumber(int number) {
        for (int shift = 24; shift >= 0 && taped < TAPE; shift -= 8) {
            tape[taped] = (number >>> shift) & 255;
            taped++;
        }
    }

    public int end(int n) {
        if (n < 0 || n > taped) {
            return NONE;
        }
        taped = n;
        return n;
    }

    public int row(int what, int of) {
        if (what < 0 || what > 2 || (what == 1 && !isTune(of)) || (what == 2 && of != 0)) {
            return refused(NO_NUMBER);
        }
        if (what == 0 && !herd.isCow(of)) {
            return refused(NO_SUCH);
        }
        int bytes = taped;
        taped = 0;
        if (what == 0 && herd.isTakenByOther(of, firstOnTape(bytes, CELLS))) {
            return refused(NOT_NOW);
        }
        if (bytes == 0) {
            return refused(NO_TEXT);
        }
        int many;
        if (what == 0) {
            many = herd.takeWay(of, tape, bytes);
        } else if (what == 1) {
            many = herd.takeNotes(of, TUNE_NOTES, tape, bytes);
        } else {
            many = herd.takeNotes(HEARD_ROW, HEARD_NOTES, tape, bytes);
        }
        latestLost = bytes - many;
        return taken(many);
    }

    /** The first byte that can be; NONE if all of them are LOST. */
    private int firstOnTape(int bytes, int below) {
        for (int i = 0; i < bytes; i++) {
            if (tape[i] < below) {
                return tape[i];
            }
        }
        return NONE;
    }

    public int lost() {
        return latestLost;
    }

    public int note(int which, int i) {
        if (which < 0 || which > HEARD_ROW) {
            return NONE;
        }
        int many = herd.noteCount[which];
        if (i == NONE) {
            return many;
        }
        return i < 0 || i >= many ? NONE : herd.noteAt(which, i);
    }

    public int law() {
        int bytes = taped;
        taped = 0;
        if (herd.laws >= LAWS) {
            return refused(NO_ROOM);
        }
        Law read = reader.read(tape, bytes);
        if (read == null) {
            return refused(NO_TEXT);
        }
        int number = herd.laws;
        herd.law[number] = read;
        herd.laws++;
        return taken(number);
    }

    public int fault() {
        return reader.fault;
    }

    public int force(int law) {
        if (law < NONE || law >= herd.laws) {
            return refused(NO_SUCH);
        }
        int before = herd.force;
        herd.force = law;
        return taken(before);
    }

    public int order(int cow) {
        if (!herd.isCow(cow)) {
            return refused(NO_SUCH);
        }
        if (herd.isOrdered(cow) || herd.ordered >= COWS) {
            return refused(NOT_NOW);
        }
        herd.order[herd.ordered] = cow;
        herd.ordered++;
        return taken(herd.ordered);
    }

    public int clear() {
        int before = herd.ordered;
        herd.ordered = 0;
        drives.stale = true;
        return before;
    }

    public int who(int i, int what) {
        if (i < 0 || what < 0 || what > 1) {
            return NONE;
        }
        if (what == 0) {
            return i < herd.ordered ? herd.order[i] : NONE;
        }
        if (i >= herd.cows) {
            return NONE;
        }
        rankAll();
        return ranks[i];
    }

    /** Sets ranks to all COWS, lower told ones first, of alike ones the lower COW. */
    private void rankAll() {
        Law law = herd.lawInForce();
        int home = herd.homes();
        for (int cow = 0; cow < herd.cows; cow++) {
            judge.describe(herd, cow, herd.left[cow], NONE, home, 0);
            rankTold[cow] = judge.tells(law, RANK) ? judge.worth : 0;
            int place = cow;
            while (place > 0 && rankTold[ranks[place - 1]] > rankTold[cow]) {
                ranks[place] = ranks[place - 1];
                place--;
            }
            ranks[place] = cow;
        }
    }

    private int rankOf(int cow) {
        for (int i = 0; i < herd.cows; i++) {
            if (ranks[i] == cow) {
                return i;
            }
        }
        return NONE;
    }

    public int unlawful() {
        rankAll();
        int pairs = 0;
        for (int i = 0; i < herd.ordered; i++) {
            for (int j = i + 1; j < herd.ordered; j++) {
                if (rankOf(herd.order[i]) > rankOf(herd.order[j])) {
                    pairs++;
                }
            }
        }
        return pairs;
    }

    public int call(int cow) {
        if (!herd.isCow(cow)) {
            return refused(NO_SUCH);
        }
        paper.layOut(herd);
        int gone = paper.tryCall(cow);
        if (gone == NONE || paper.isUnguarded()) {
            return refused(NOT_NOW);
        }
        System.arraycopy(paper.left, 0, herd.left, 0, herd.cows);
        return taken(gone);
    }

    public int would(int called, int cow) {
        if (!herd.isCow(called) || !herd.isCow(cow)) {
            return NONE;
        }
        paper.layOut(herd);
        return paper.tryCall(called) == NONE || paper.isUnguarded() ? NONE : paper.left[cow];
    }

    public int drive(int what) {
        if (what < 0 || what > 2) {
            return NONE;
        }
        if (drives.stale) {
            drives.look(herd);
        }
        if (what == 0) {
            return drives.fewest;
        }
        return what == 1 ? drives.many : drives.reached;
    }

    public int calls(int i) {
        if (drives.stale) {
            drives.look(herd);
        }
        return i < 0 || i >= drives.fewest ? NONE : drives.first[i];
    }

    public int dogs() {
        return drives.fewestGuarded(herd);
    }

    public int lead(int tune) {
        if (!isTune(tune)) {
            return refused(NO_NUMBER);
        }
        herd.ordered = 0;
        for (int i = 0; i < herd.noteCount[tune]; i++) {
            int cow = nextToLead(herd.noteAt(tune, i));
            if (cow != NONE && herd.ordered < COWS) {
                herd.order[herd.ordered] = cow;
                herd.ordered++;
            }
        }
        return taken(herd.ordered);
    }

    private int nextToLead(int note) {
        for (int cow = 0; cow < herd.cows; cow++) {
            if (herd.ringing(cow) == note && !herd.isOrdered(cow)) {
                return cow;
            }
        }
        return NONE;
    }

    public int rung(int tune) {
        if (!isTune(tune)) {
            return NONE;
        }
        foundry.give(herd, tune, NONE);
        return foundry.fewest == 0 ? 1 : 0;
    }

    public int recast(int tune, int what) {
        if (!isTune(tune) || what < 0 || what > 1) {
            return NONE;
        }
        foundry.give(herd, tune, NONE);
        if (what == 1) {
            return foundry.ways;
        }
        return foundry.fewest == CANT_CAST ? NONE : foundry.fewest;
    }

    public int hoof(int tune, int i) {
        if (!isTune(tune) || i < 0 || i >= herd.noteCount[tune] || i >= COWS) {
            return NONE;
        }
        foundry.give(herd, tune, NONE);
        return foundry.fewest == CANT_CAST ? NONE : foundry.first[i];
    }

    public int cast(int tune) {
        if (!isTune(tune)) {
            return refused(NO_NUMBER);
        }
        foundry.give(herd, tune, NONE);
        if (foundry.fewest == CANT_CAST) {
            return refused(NOT_NOW);
        }
        for (int i = 0; i < herd.noteCount[tune] && i < COWS; i++) {
            herd.setTrait(foundry.first[i], NOTE, herd.noteAt(tune, i));
        }
        return taken(foundry.fewest);
    }

    public int sold() {
        int best = NONE;
        int bestRung = 0;
        int bestCost = 0;
        for (int cow = 0; cow < herd.cows; cow++) {
            int canBeRung = 0;
            int cost = 0;
            for (int tune = 0; tune < TUNES; tune++) {
                if (herd.noteCount[tune] > 0) {
                    foundry.give(herd, tune, cow);
                    canBeRung += foundry.fewest == 0 ? 1 : 0;
                    cost += foundry.fewest;
                }
            }
            if (best == NONE || canBeRung > bestRung || (canBeRung == bestRung && cost < bestCost)) {
                best = cow;
                bestRung = canBeRung;
                bestCost = cost;
            }
        }
        return best;
    }

    public int slips(int tune, int what) {
        if (!isTune(tune) || what < 0 || what > 1) {
            return NONE;
        }
        listener.compare(herd, tune);
        return what == 0 ? listener.fewest : listener.many;
    }

    public int hymn() {
        int best = NONE;
        int bestSlips = 0;
        for (int tune = 0; tune < TUNES; tune++) {
            if (herd.noteCount[tune] > 0) {
                listener.compare(herd, tune);
                if (best == NONE || listener.fewest < bestSlips) {
                    best = tune;
                    bestSlips = listener.fewest;
                }
            }
        }
        return best;
    }

    public int ear(int note, int loud) {
        if (!isTrait(NOTE, note) || loud < 0 || loud > LOUDEST) {
            return refused(NO_NUMBER);
        }
        if (herd.ears >= EARS) {
            return refused(NO_ROOM);
        }
        herd.earNote[herd.ears] = note;
        herd.earLoud[herd.ears] = loud;
        herd.ears++;
        return taken(herd.ears);
    }

    public int deaf() {
        int before = herd.ears;
        herd.ears = 0;
        return before;
    }

    public int likely(int cow, int left) {
        if (!herd.isCow(cow) || left < 0 || left > herd.wayLength[cow] || herd.trait(cow, CRACKED) != 0) {
            return NONE;
        }
        return odds.millionths(herd, judge, cow, left);
    }

    public int fog(int seed, int rounds) {
        if (seed < 0 || seed > HIGHEST_SEED || rounds < 0 || rounds > MOST_ROUNDS) {
            return refused(NO_NUMBER);
        }
        paper.layOut(herd);
        int gone = paper.strayAll(seed, rounds);
        System.arraycopy(paper.left, 0, fogLeft, 0, herd.cows);
        fogCows = herd.cows;
        return taken(gone);
    }

    /** By the COWS of the latest FOG, not those of now: BACK takes COWS away, but leaves the FOG as it is. */
    public int drawn(int cow) {
        return cow < 0 || cow >= fogCows ? NONE : fogLeft[cow];
    }

    public int image(int k) {
        if (k < 0 || k >= IMAGES) {
            return refused(NO_NUMBER);
        }
        if (images[k] == null) {
            images[k] = new Herd();
        }
        images[k].become(herd);
        return taken(0);
    }

    public int back(int k) {
        if (k < 0 || k >= IMAGES) {
            return refused(NO_NUMBER);
        }
        if (images[k] == null) {
            return refused(NO_SUCH);
        }
        herd.become(images[k]);
        return taken(0);
    }

    public int count(int what) {
        switch (what) {
            case 0:
                return herd.cows;
            case 1:
                return herd.laws;
            case 2:
                return herd.gaps;
            case 3:
                return herd.ordered;
            case 4:
                return herd.ears;
            case 5:
                return herd.homes();
            case 6:
                return taped;
            case 7:
                return refusals[-NO_NUMBER - 1];
            case 8:
                return refusals[-NO_SUCH - 1];
            case 9:
                return refusals[-NOT_NOW - 1];
            case 10:
                return refusals[-NO_ROOM - 1];
            case 11:
                return refusals[-NO_TEXT - 1];
            case 12:
                return herd.force;
            default:
                return NONE;
        }
    }

    public int status() {
        return latestRefusal;
    }

    private int refused(int by) {
        latestRefusal = by;
        int place = -by - 1;
        if (place >= 0 && place < refusals.length) {
            refusals[place]++;
        }
        return by;
    }

    /** Whatever a call that was not REFUSED changed, a DRIVE must be looked for anew. */
    private int taken(int answer) {
        latestRefusal = 0;
        drives.stale = true;
        return answer;
    }

    private static boolean isTrait(int what, int value) {
        return what >= 0 && what < TRAITS && value >= LEAST_TRAIT[what] && value <= MOST_TRAIT[what];
    }

    private static boolean isTune(int tune) {
        return tune >= 0 && tune < TUNES;
    }

    /** All that an IMAGE keeps. */
    private static final class Herd {
        int cows;
        final int[] traits = new int[COWS * TRAITS];
        final int[] wayCell = new int[COWS * WAY];
        final int[] wayLength = new int[COWS];
        final int[] left = new int[COWS];
        int wind;
        int gaps;
        final int[] gapCell = new int[GAPS];
        int guarded;
        final int[] notes = new int[(TUNES + 1) * HEARD_NOTES];
        final int[] noteCount = new int[TUNES + 1];
        int laws;
        final Law[] law = new Law[LAWS];
        int force = NONE;
        int ordered;
        final int[] order = new int[COWS];
        int ears;
        final int[] earNote = new int[EARS];
        final int[] earLoud = new int[EARS];

        /** LAWS are never changed, so two herds may have the same ones. */
        void become(Herd other) {
            cows = other.cows;
            System.arraycopy(other.traits, 0, traits, 0, traits.length);
            System.arraycopy(other.wayCell, 0, wayCell, 0, wayCell.length);
            System.arraycopy(other.wayLength, 0, wayLength, 0, COWS);
            System.arraycopy(other.left, 0, left, 0, COWS);
            wind = other.wind;
            gaps = other.gaps;
            System.arraycopy(other.gapCell, 0, gapCell, 0, GAPS);
            guarded = other.guarded;
            System.arraycopy(other.notes, 0, notes, 0, notes.length);
            System.arraycopy(other.noteCount, 0, noteCount, 0, noteCount.length);
            laws = other.laws;
            System.arraycopy(other.law, 0, law, 0, LAWS);
            force = other.force;
            ordered = other.ordered;
            System.arraycopy(other.order, 0, order, 0, COWS);
            ears = other.ears;
            System.arraycopy(other.earNote, 0, earNote, 0, EARS);
            System.arraycopy(other.earLoud, 0, earLoud, 0, EARS);
        }

        boolean isCow(int cow) {
            return cow >= 0 && cow < cows;
        }

        int trait(int cow, int what) {
            return traits[cow * TRAITS + what];
        }

        void setTrait(int cow, int what, int value) {
            traits[cow * TRAITS + what] = value;
        }

        /** The NOTE of a bell, NONE of a CRACKED one. */
        int ringing(int cow) {
            return trait(cow, CRACKED) != 0 ? NONE : trait(cow, NOTE);
        }

        /** The CELL in which a COW with so much LEFT stands; NONE: it is HOME. */
        int cellAt(int cow, int howMuch) {
            int place = wayLength[cow] - howMuch;
            return howMuch <= 0 || place < 0 ? NONE : wayCell[cow * WAY + place];
        }

        boolean isTakenByOther(int cow, int cell) {
            for (int other = 0; other < cows; other++) {
                if (cell != NONE && other != cow && cellAt(other, left[other]) == cell) {
                    return true;
                }
            }
            return false;
        }

        int homes() {
            int home = 0;
            for (int cow = 0; cow < cows; cow++) {
                home += left[cow] == 0 ? 1 : 0;
            }
            return home;
        }

        boolean isOrdered(int cow) {
            for (int i = 0; i < ordered; i++) {
                if (order[i] == cow) {
                    return true;
                }
            }
            return false;
        }

        /** The bit of the GAP in a CELL, 0 without. */
        int gapBit(int cell) {
            for (int i = 0; i < gaps; i++) {
                if (gapCell[i] == cell) {
                    return 1 << i;
                }
            }
            return 0;
        }

        Law lawInForce() {
            return force >= 0 && force < laws ? law[force] : null;
        }

        int noteAt(int which, int i) {
            return notes[which * HEARD_NOTES + i];
        }

        int takeNotes(int which, int room, int[] bytes, int many) {
            int kept = 0;
            for (int i = 0; i < many && kept < room; i++) {
                if (bytes[i] < NOTES) {
                    notes[which * HEARD_NOTES + kept] = bytes[i];
                    kept++;
                }
            }
            noteCount[which] = kept;
            return kept;
        }

        int takeWay(int cow, int[] bytes, int many) {
            int kept = 0;
            for (int i = 0; i < many && kept < WAY; i++) {
                if (bytes[i] < CELLS && !isOnWay(cow, kept, bytes[i])) {
                    wayCell[cow * WAY + kept] = bytes[i];
                    kept++;
                }
            }
            wayLength[cow] = kept;
            left[cow] = kept;
            return kept;
        }

        private boolean isOnWay(int cow, int length, int cell) {
            for (int i = 0; i < length; i++) {
                if (wayCell[cow * WAY + i] == cell) {
                    return true;
                }
            }
            return false;
        }
    }

    /** A LAW as it was read: of each CLAUSE its HEAD and where in the code its SUM and its TEST are. */
    private static final class Law {
        static final int FRAME = 4;
        static final int HEAD = 0;
        static final int SUM_FROM = 1;
        static final int TEST_FROM = 2;
        static final int TEST_TO = 3;

        final int clauses;
        final int[] frames;
        final int[] code;

        Law(int clauses, int[] frames, int[] code) {
            this.clauses = clauses;
            this.frames = frames;
            this.code = code;
        }

        int frame(int clause, int what) {
            return frames[clause * FRAME + what];
        }

        boolean hasHead(int head) {
            for (int i = 0; i < clauses; i++) {
                if (frame(i, HEAD) == head) {
                    return true;
                }
            }
            return false;
        }
    }

    /** What the numbers of a LAW's code mean: the operation in the low bits, what it is done with above. */
    private static final class Op {
        static final int BITS = 4;
        static final int MASK = 15;
        static final int NUMBER = 0;
        static final int WORD = 1;
        static final int ADD = 2;
        static final int SUBTRACT = 3;
        static final int MULTIPLY = 4;
        static final int DIVIDE = 5;
        static final int LESS = 6;
        static final int MORE = 7;
        static final int SAME = 8;
        static final int NOT = 9;
        static final int AND = 10;
        static final int OR = 11;
    }

    /**
     * Reads a TEXT into a LAW. Whatever reads a part answers false as soon as the TOKEN at start can't go on there,
     * and takes no other one then, so that start is the FAULT.
     */
    private static final class Reader {
        private static final int CLAUSES = 12;
        private static final int PARTS = 50;
        private static final int BRACKETS = 8;
        private static final int HIGHEST = 1000;

        private static final int END = 0;
        private static final int LETTERS = 1;
        private static final int DIGITS = 2;
        private static final int SIGN = 3;

        /** In the order of the HEADS' numbers, a blank behind each. */
        private static final String HEAD_WORDS = "steps rank loud balks follows ";
        /** In the order in which Judge knows them, a blank behind each. */
        private static final String PART_WORDS = "cow note pace fear age left called wind home heard ";

        int fault = NONE;
        private int[] text;
        private int length;
        private int start;
        private int stop;
        private int kind;
        private int parts;
        private int clauses;
        private final int[] frames = new int[CLAUSES * Law.FRAME];
        private final int[] code = new int[TAPE];
        private int coded;

        /** A LAW, or null: fault says then where. */
        Law read(int[] bytes, int many) {
            text = bytes;
            length = many;
            stop = 0;
            parts = 0;
            clauses = 0;
            coded = 0;
            fault = NONE;
            takeToken();
            while (clauses < CLAUSES && readClause(clauses)) {
                clauses++;
                if (kind == END) {
                    return new Law(clauses, Arrays.copyOf(frames, clauses * Law.FRAME), Arrays.copyOf(code, coded));
                }
                if (!isSign(';')) {
                    break;
                }
                takeToken();
            }
            fault = start;
            return null;
        }

        private boolean readClause(int i) {
            int head = wordAmong(HEAD_WORDS);
            if (head == NONE) {
                return false;
            }
            takeToken();
            int frame = i * Law.FRAME;
            frames[frame + Law.HEAD] = head;
            frames[frame + Law.SUM_FROM] = coded;
            if (head != BALKS && head != FOLLOWS && !readSum(0)) {
                return false;
            }
            frames[frame + Law.TEST_FROM] = coded;
            if (isWord("if ")) {
                takeToken();
                if (!readTest(0)) {
                    return false;
                }
            }
            frames[frame + Law.TEST_TO] = coded;
            return true;
        }

        private boolean readTest(int depth) {
            if (!readBoth(depth)) {
                return false;
            }
            for (int i = 0; i < TAPE && isWord("or "); i++) {
                takeToken();
                int jump = coded;
                emit(Op.OR, 0);
                if (!readBoth(depth)) {
                    return false;
                }
                code[jump] = Op.OR | coded << Op.BITS;
            }
            return true;
        }

        private boolean readBoth(int depth) {
            if (!readPlain(depth)) {
                return false;
            }
            for (int i = 0; i < TAPE && isWord("and "); i++) {
                takeToken();
                int jump = coded;
                emit(Op.AND, 0);
                if (!readPlain(depth)) {
                    return false;
                }
                code[jump] = Op.AND | coded << Op.BITS;
            }
            return true;
        }

        /** A row of "not" is counted, not gone down into, for it may be long. */
        private boolean readPlain(int depth) {
            boolean turned = false;
            for (int i = 0; i < TAPE && isWord("not "); i++) {
                turned = !turned;
                takeToken();
            }
            if (isSign('(')) {
                if (!readBracket(depth)) {
                    return false;
                }
            } else {
                if (!readSum(depth)) {
                    return false;
                }
                int op = comparisonHere();
                if (op == NONE) {
                    return false;
                }
                takeToken();
                if (!readSum(depth)) {
                    return false;
                }
                emit(op, 0);
            }
            if (turned) {
                emit(Op.NOT, 0);
            }
            return true;
        }

        private boolean readBracket(int depth) {
            if (depth >= BRACKETS) {
                return false;
            }
            takeToken();
            if (!readTest(depth + 1) || !isSign(')')) {
                return false;
            }
            takeToken();
            return true;
        }

        private int comparisonHere() {
            if (isSign('<')) {
                return Op.LESS;
            }
            if (isSign('>')) {
                return Op.MORE;
            }
            return isSign('=') ? Op.SAME : NONE;
        }

        private boolean readSum(int depth) {
            if (!readTerm(depth)) {
                return false;
            }
            for (int i = 0; i < TAPE && (isSign('+') || isSign('-')); i++) {
                int op = isSign('+') ? Op.ADD : Op.SUBTRACT;
                takeToken();
                if (!readTerm(depth)) {
                    return false;
                }
                emit(op, 0);
            }
            return true;
        }

        private boolean readTerm(int depth) {
            if (!readPart(depth)) {
                return false;
            }
            for (int i = 0; i < TAPE && (isSign('*') || isSign('/')); i++) {
                int op = isSign('*') ? Op.MULTIPLY : Op.DIVIDE;
                takeToken();
                if (!readPart(depth)) {
                    return false;
                }
                emit(op, 0);
            }
            return true;
        }

        private boolean readPart(int depth) {
            if (isSign('[')) {
                return readGroup(depth);
            }
            int word = wordAmong(PART_WORDS);
            int number = numberHere();
            if ((word == NONE && number == NONE) || parts >= PARTS) {
                return false;
            }
            parts++;
            if (word != NONE) {
                emit(Op.WORD, word);
            } else {
                emit(Op.NUMBER, number);
            }
            takeToken();
            return true;
        }

        private boolean readGroup(int depth) {
            if (depth >= BRACKETS) {
                return false;
            }
            takeToken();
            if (!readSum(depth + 1) || !isSign(']')) {
                return false;
            }
            takeToken();
            return true;
        }

        /** The code can't be full: each of its numbers has a TOKEN of its own. */
        private void emit(int op, int with) {
            if (coded < TAPE) {
                code[coded] = op | with << Op.BITS;
                coded++;
            }
        }

        private void takeToken() {
            start = stop;
            while (start < length && text[start] == ' ') {
                start++;
            }
            stop = start;
            if (start >= length) {
                kind = END;
                return;
            }
            kind = kindOf(text[start]);
            stop++;
            while (kind != SIGN && stop < length && kindOf(text[stop]) == kind) {
                stop++;
            }
        }

        private static int kindOf(int b) {
            if (b >= 'a' && b <= 'z') {
                return LETTERS;
            }
            return b >= '0' && b <= '9' ? DIGITS : SIGN;
        }

        private boolean isSign(char sign) {
            return kind == SIGN && text[start] == sign;
        }

        private boolean isWord(String word) {
            return wordAmong(word) == 0;
        }

        /** Which of some words, with a blank behind each, the TOKEN is; NONE of them. */
        private int wordAmong(String words) {
            int which = 0;
            int at = start;
            boolean same = kind == LETTERS;
            for (int i = 0; i < words.length(); i++) {
                char sign = words.charAt(i);
                if (sign != ' ') {
                    same = same && at < stop && text[at] == sign;
                    at++;
                } else if (same && at == stop) {
                    return which;
                } else {
                    which++;
                    at = start;
                    same = kind == LETTERS;
                }
            }
            return NONE;
        }

        /** The NUMBER that the TOKEN is; NONE, if it is none or too high. */
        private int numberHere() {
            if (kind != DIGITS) {
                return NONE;
            }
            int number = 0;
            for (int i = start; i < stop; i++) {
                number = number * 10 + text[i] - '0';
                if (number > HIGHEST) {
                    return NONE;
                }
            }
            return number;
        }
    }

    /** Asks a LAW of a COW. */
    private static final class Judge {
        private static final int KNOWN = 10;
        private static final int STACK = 64;

        private final int[] known = new int[KNOWN];
        private final long[] stack = new long[STACK];
        long worth;

        /** Of whom, and when, it is asked: in the order of Reader.PART_WORDS. */
        void describe(Herd herd, int cow, int left, int called, int home, int heard) {
            known[0] = cow;
            known[1] = herd.ringing(cow);
            known[2] = herd.trait(cow, PACE);
            known[3] = herd.trait(cow, FEAR);
            known[4] = herd.trait(cow, AGE);
            known[5] = left;
            known[6] = called;
            known[7] = herd.wind;
            known[8] = home;
            known[9] = heard;
        }

        /** Whether a CLAUSE with a HEAD HOLDS; worth is what the last of them tells. */
        boolean tells(Law law, int head) {
            if (law == null) {
                return false;
            }
            for (int i = law.clauses - 1; i >= 0; i--) {
                if (law.frame(i, Law.HEAD) == head) {
                    int sumFrom = law.frame(i, Law.SUM_FROM);
                    int testFrom = law.frame(i, Law.TEST_FROM);
                    int testTo = law.frame(i, Law.TEST_TO);
                    boolean isSo = testTo == testFrom || (isWorked(law.code, testFrom, testTo) && worth != 0);
                    if (isSo && (testFrom == sumFrom || isWorked(law.code, sumFrom, testFrom))) {
                        return true;
                    }
                }
            }
            return false;
        }

        /** What was told, at least 0 and at most so much. */
        int worthWithin(int most) {
            return (int) Math.max(0L, Math.min((long) most, worth));
        }

        /** Sets worth to what a part of the code comes to; false, if that is BROKEN, by which all around it is too. */
        private boolean isWorked(int[] code, int from, int to) {
            int top = 0;
            int end = Math.min(to, code.length);
            for (int at = Math.max(0, from); at < end; at++) {
                int op = code[at] & Op.MASK;
                int with = code[at] >> Op.BITS;
                if (op == Op.NUMBER || op == Op.WORD) {
                    if (top >= STACK) {
                        return false;
                    }
                    stack[top] = op == Op.NUMBER ? with : wordWorth(with);
                    top++;
                } else if (op == Op.AND || op == Op.OR) {
                    if (top < 1) {
                        return false;
                    }
                    if ((stack[top - 1] != 0) == (op == Op.OR)) {
                        at = Math.max(at, with - 1);
                    } else {
                        top--;
                    }
                } else if (op == Op.NOT) {
                    if (top < 1) {
                        return false;
                    }
                    stack[top - 1] = 1 - stack[top - 1];
                } else {
                    if (top < 2 || (op == Op.DIVIDE && stack[top - 1] == 0)) {
                        return false;
                    }
                    top--;
                    stack[top - 1] = joined(op, stack[top - 1], stack[top]);
                    if (Math.abs(stack[top - 1]) > BILLION) {
                        return false;
                    }
                }
            }
            worth = stack[0];
            return top == 1;
        }

        private int wordWorth(int word) {
            return word >= 0 && word < KNOWN ? known[word] : 0;
        }

        private static long joined(int op, long a, long b) {
            switch (op) {
                case Op.ADD:
                    return a + b;
                case Op.SUBTRACT:
                    return a - b;
                case Op.MULTIPLY:
                    return a * b;
                case Op.DIVIDE:
                    return b == 0 ? 0 : a / b;
                case Op.LESS:
                    return a < b ? 1 : 0;
                case Op.MORE:
                    return a > b ? 1 : 0;
                default:
                    return a == b ? 1 : 0;
            }
        }
    }

    /** A herd on paper: what CALLS and FOG would make of LEFT, without a change to the herd itself. */
    private static final class Paper {
        private static final int HOMES = COWS + 1;
        private static final int STEP_MASK = 3;
        private static final int BALKING = 4;
        private static final int FOLLOWING = 8;
        private static final int ASKED = 16;
        private static final int MOST_STEPS = 3;

        final int[] left = new int[COWS];
        int cows;
        int stands;
        private int home;
        private final Judge judge;
        private Herd herd;
        private Law law;
        private boolean anyFollows;
        private final int[] cellAt = new int[COWS * LEFTS];
        private final int[] gapAt = new int[COWS * LEFTS];
        private final int[] stride = new int[COWS];
        /** What the LAW told of one COW with so much LEFT, by who is called and how many are HOME: 0, not asked yet. */
        private final int[] told = new int[COWS * COWS * HOMES * LEFTS];

        Paper(Judge judge) {
            this.judge = judge;
        }

        void layOut(Herd from) {
            herd = from;
            law = from.lawInForce();
            anyFollows = law != null && law.hasHead(FOLLOWS);
            cows = from.cows;
            home = from.homes();
            stands = 1;
            Arrays.fill(told, 0);
            for (int cow = 0; cow < cows; cow++) {
                stride[cow] = stands;
                stands *= from.wayLength[cow] + 1;
                left[cow] = from.left[cow];
                for (int many = 0; many <= from.wayLength[cow]; many++) {
                    int cell = from.cellAt(cow, many);
                    cellAt[cow * LEFTS + many] = cell;
                    gapAt[cow * LEFTS + many] = from.gapBit(cell);
                }
            }
        }

        /** A number below stands for who stands where. No CALL makes it higher. */
        int shownStand() {
            int stand = 0;
            for (int cow = 0; cow < cows; cow++) {
                stand += left[cow] * stride[cow];
            }
            return stand;
        }

        void showStand(int stand) {
            int rest = stand;
            home = 0;
            for (int cow = cows - 1; cow >= 0; cow--) {
                int unit = Math.max(1, stride[cow]);
                left[cow] = rest / unit;
                rest -= left[cow] * unit;
                home += left[cow] == 0 ? 1 : 0;
            }
        }

        /** Makes a CALL: how many CELLS all went; NONE, if the called one is HOME, or one came HOME out of ORDER. */
        int tryCall(int called) {
            if (left[called] == 0) {
                return NONE;
            }
            int manner = mannerOf(called, called);
            int steps = (manner & BALKING) != 0 ? 0 : manner & STEP_MASK;
            int gone = 0;
            while (gone < steps && left[called] > 0 && isFree(called, left[called] - 1)) {
                if (!goesOn(called)) {
                    return NONE;
                }
                gone++;
            }
            for (int cow = 0; anyFollows && cow < cows; cow++) {
                if (cow != called && left[cow] > 0
                        && (mannerOf(cow, called) & (BALKING | FOLLOWING)) == FOLLOWING
                        && isFree(cow, left[cow] - 1)) {
                    if (!goesOn(cow)) {
                        return NONE;
                    }
                    gone++;
                }
            }
            return gone;
        }

        /** One CELL on; false, if it would come HOME and is not the next of the ORDER. */
        private boolean goesOn(int cow) {
            if (left[cow] == 1 && cow != nextOfOrder()) {
                return false;
            }
            left[cow]--;
            home += left[cow] == 0 ? 1 : 0;
            return true;
        }

        private int nextOfOrder() {
            for (int i = 0; i < herd.ordered; i++) {
                if (left[herd.order[i]] > 0) {
                    return herd.order[i];
                }
            }
            return NONE;
        }

        boolean isAllHome() {
            return nextOfOrder() == NONE;
        }

        /** The GAPS in which one stands, as bits. */
        int gapsStoodIn() {
            int bits = 0;
            for (int cow = 0; cow < cows; cow++) {
                bits |= gapAt[cow * LEFTS + left[cow]];
            }
            return bits;
        }

        boolean isUnguarded() {
            return herd.gaps > 0 && (gapsStoodIn() & ~herd.guarded) != 0;
        }

        private boolean isFree(int cow, int many) {
            int cell = cellAt[cow * LEFTS + many];
            for (int other = 0; other < cows; other++) {
                if (cell != NONE && other != cow && cellAt[other * LEFTS + left[other]] == cell) {
                    return false;
                }
            }
            return true;
        }

        /** What the LAW tells now of how a COW goes: steps, BALKING, FOLLOWING. */
        private int mannerOf(int cow, int called) {
            int place = ((cow * COWS + called) * HOMES + home) * LEFTS + left[cow];
            if (told[place] == 0) {
                judge.describe(herd, cow, left[cow], called, home, 0);
                int manner = ASKED;
                manner |= judge.tells(law, STEPS) ? judge.worthWithin(MOST_STEPS) : herd.trait(cow, PACE);
                manner |= judge.tells(law, BALKS) ? BALKING : 0;
                manner |= judge.tells(law, FOLLOWS) ? FOLLOWING : 0;
                told[place] = manner;
            }
            return told[place];
        }

        /** FOG: how often one went on or back. */
        int strayAll(int seed, int rounds) {
            long s = seed;
            int gone = 0;
            for (int round = 0; round < rounds; round++) {
                for (int cow = 0; cow < cows; cow++) {
                    if (left[cow] > 0) {
                        s = (s * 1103 + 12345) % 1_000_003;
                        gone += strays(cow, (int) (s % 3)) ? 1 : 0;
                    }
                }
            }
            return gone;
        }

        private boolean strays(int cow, int draw) {
            int many = left[cow] + 1 - draw;
            if (draw == 1 || many < 1 || many > herd.wayLength[cow] || !isFree(cow, many)) {
                return false;
            }
            left[cow] = many;
            return true;
        }
    }

    /**
     * Goes over all stands that CALLS can lead to. No CALL makes any LEFT more, so one can't come back to a stand
     * that was left, and what is ahead of a stand is known for good when all CALLS from it were gone after.
     */
    private static final class Drives {
        private static final int MOST_STANDS = 100_000;
        private static final int MOST_TURNS = 1_000_000;
        private static final int LONGEST = COWS * WAY;
        private static final int UNSEEN = 0;
        private static final int ARRIVED = 1;
        private static final int NEVER = LONGEST + 2;
        /** Of each GAP: those sets of GUARDED GAPS, a bit each, that have it. */
        private static final int[] SETS_WITH = {0xAAAAAAAA, 0xCCCCCCCC, 0xF0F0F0F0, 0xFF00FF00, 0xFFFF0000};

        boolean stale = true;
        int fewest;
        int many;
        int reached;
        final int[] first = new int[LONGEST];

        private final Paper paper;
        /** Of each stand how many CALLS it takes from there, and one more. */
        private int[] ahead = new int[0];
        /** Of each stand in how many ways; or, with any GAPS GUARDED, by which sets of them, a bit each. */
        private int[] ways = new int[0];
        private boolean anyGuard;
        private int depth;
        private final int[] openStand = new int[LONGEST + 1];
        private final int[] openCow = new int[LONGEST + 1];
        private final int[] openGaps = new int[LONGEST + 1];

        Drives(Paper paper) {
            this.paper = paper;
        }

        /** SHORTEST DRIVES with GAPS as they are GUARDED. */
        void look(Herd herd) {
            paper.layOut(herd);
            int begin = paper.shownStand();
            anyGuard = false;
            reached = explore(begin);
            boolean none = ahead[begin] == NEVER;
            fewest = none ? NONE : ahead[begin] - ARRIVED;
            many = ways[begin];
            int stand = begin;
            for (int i = 0; i < fewest && i < LONGEST; i++) {
                stand = takeFirst(i, stand);
            }
            stale = false;
        }

        /** DOGS: one look over all stands tells of all sets of GAPS at once. */
        int fewestGuarded(Herd herd) {
            paper.layOut(herd);
            int begin = paper.shownStand();
            anyGuard = true;
            explore(begin);
            int best = NONE;
            for (int set = 0; set < 1 << herd.gaps; set++) {
                if ((ways[begin] >>> set & 1) != 0
                        && (best == NONE || Integer.bitCount(set) < Integer.bitCount(best))) {
                    best = set;
                }
            }
            return best;
        }

        /** Sets the i-th CALL of the FIRST: the lowest COW by which one comes a CALL nearer. */
        private int takeFirst(int i, int stand) {
            for (int cow = 0; cow < paper.cows; cow++) {
                paper.showStand(stand);
                if (paper.tryCall(cow) != NONE && !paper.isUnguarded()) {
                    int next = paper.shownStand();
                    if (ahead[next] == ahead[stand] - 1) {
                        first[i] = cow;
                        return next;
                    }
                }
            }
            return stand;
        }

        /** From the stand that the paper shows to all others: how many there are. */
        private int explore(int begin) {
            forgetStands();
            int seen = 1;
            depth = 0;
            open(begin);
            for (int turn = 0; turn < MOST_TURNS && depth > 0; turn++) {
                int stand = openStand[depth - 1];
                int cow = openCow[depth - 1];
                if (cow >= paper.cows) {
                    shut(stand);
                    continue;
                }
                openCow[depth - 1]++;
                paper.showStand(stand);
                if (paper.tryCall(cow) == NONE || (!anyGuard && paper.isUnguarded())) {
                    continue;
                }
                int next = paper.shownStand();
                if (next == stand) {
                    continue;
                }
                openGaps[depth - 1] = anyGuard ? paper.gapsStoodIn() : 0;
                if (ahead[next] != UNSEEN) {
                    learn(stand, next, openGaps[depth - 1]);
                } else if (depth <= LONGEST) {
                    seen++;
                    open(next);
                }
            }
            return seen;
        }

        private void forgetStands() {
            int stands = paper.stands;
            if (ahead.length < stands) {
                int room = Math.min(MOST_STANDS, Math.max(stands, 2 * ahead.length));
                ahead = new int[room];
                ways = new int[room];
            }
            for (int stand = 0; stand < stands; stand++) {
                ahead[stand] = UNSEEN;
            }
        }

        /** Begins with a stand that the paper shows. */
        private void open(int stand) {
            boolean arrived = paper.isAllHome();
            ahead[stand] = arrived ? ARRIVED : NEVER;
            ways[stand] = 0;
            if (arrived) {
                ways[stand] = anyGuard ? -1 : 1;
            }
            openStand[depth] = stand;
            openCow[depth] = 0;
            depth++;
        }

        private void shut(int stand) {
            depth--;
            if (depth > 0) {
                learn(openStand[depth - 1], stand, openGaps[depth - 1]);
            }
        }

        /** What a stand has ahead by a CALL to the next, in which COWS stand in some GAPS. */
        private void learn(int stand, int next, int gaps) {
            if (anyGuard) {
                ways[stand] |= ways[next] & setsWith(gaps);
                return;
            }
            if (ahead[next] == NEVER) {
                return;
            }
            int calls = ahead[next] + 1;
            if (calls < ahead[stand]) {
                ahead[stand] = calls;
                ways[stand] = ways[next];
            } else if (calls == ahead[stand]) {
                ways[stand] = Math.min(BILLION, ways[stand] + ways[next]);
            }
        }

        private static int setsWith(int gaps) {
            int sets = -1;
            for (int i = 0; i < GAPS; i++) {
                if ((gaps >> i & 1) != 0) {
                    sets &= SETS_WITH[i];
                }
            }
            return sets;
        }
    }

    /** RECAST: tries all ways to give a TUNE's NOTES to COWS, the FIRST ones first. */
    private static final class Foundry {
        int fewest;
        int ways;
        final int[] first = new int[COWS];
        private final int[] given = new int[COWS];
        private Herd herd;
        private int tune;

        /** Without one COW (NONE: with all): fewest is CANT_CAST, if it can't be. */
        void give(Herd from, int ofTune, int without) {
            herd = from;
            tune = ofTune;
            fewest = CANT_CAST;
            ways = 0;
            giveFrom(0, without == NONE ? 0 : 1 << without, 0);
        }

        /** As deep as there are COWS at most: each NOTE takes one. */
        private void giveFrom(int place, int takenCows, int recasts) {
            if (recasts > fewest) {
                return;
            }
            if (place >= herd.noteCount[tune]) {
                keep(place, recasts);
                return;
            }
            if (place >= COWS) {
                return;
            }
            int note = herd.noteAt(tune, place);
            for (int cow = 0; cow < herd.cows; cow++) {
                int ringing = herd.ringing(cow);
                if ((takenCows >> cow & 1) == 0 && ringing != NONE && ringing <= note) {
                    given[place] = cow;
                    giveFrom(place + 1, takenCows | 1 << cow, recasts + (ringing < note ? 1 : 0));
                }
            }
        }

        private void keep(int many, int recasts) {
            if (recasts < fewest) {
                fewest = recasts;
                ways = 0;
                System.arraycopy(given, 0, first, 0, many);
            }
            ways++;
        }
    }

    /** SLIPS of HEARD against a TUNE, by how much of both was gone over. */
    private static final class Listener {
        private static final int WIDTH = TUNE_NOTES + 1;

        int fewest;
        int many;
        private final int[] cost = new int[(HEARD_NOTES + 1) * WIDTH];
        private final int[] ways = new int[(HEARD_NOTES + 1) * WIDTH];

        void compare(Herd herd, int tune) {
            int heard = herd.noteCount[HEARD_ROW];
            int tuned = herd.noteCount[tune];
            for (int i = 0; i <= heard; i++) {
                for (int j = 0; j <= tuned; j++) {
                    weigh(herd, tune, i, j);
                }
            }
            fewest = cost[heard * WIDTH + tuned];
            many = ways[heard * WIDTH + tuned];
        }

        private void weigh(Herd herd, int tune, int i, int j) {
            int here = i * WIDTH + j;
            cost[here] = i + j == 0 ? 0 : HEARD_NOTES + TUNE_NOTES + 1;
            ways[here] = i + j == 0 ? 1 : 0;
            if (i > 0) {
                reach(here, here - WIDTH, 1);
            }
            if (j > 0) {
                reach(here, here - 1, 1);
            }
            if (i > 0 && j > 0) {
                reach(here, here - WIDTH - 1, isAlike(herd, tune, i - 1, j - 1) ? 0 : 1);
            }
            if (i > 1 && j > 1 && isAlike(herd, tune, i - 1, j - 2) && isAlike(herd, tune, i - 2, j - 1)) {
                reach(here, here - 2 * WIDTH - 2, 1);
            }
        }

        private static boolean isAlike(Herd herd, int tune, int heardAt, int tuneAt) {
            return herd.noteAt(HEARD_ROW, heardAt) == herd.noteAt(tune, tuneAt);
        }

        private void reach(int here, int from, int slip) {
            int with = cost[from] + slip;
            if (with < cost[here]) {
                cost[here] = with;
                ways[here] = ways[from];
            } else if (with == cost[here]) {
                ways[here] = Math.min(BILLION, ways[here] + ways[from]);
            }
        }
    }

    /** How likely a LEFT is by EARS: products of up to twenty hundreds, too high for a long, in limbs of a billion. */
    private static final class Odds {
        private static final int LIMBS = 6;
        private static final int LOUDEST_TOLD = 100;
        private static final int LOUD_WITHOUT = 50;
        private static final int DIGITS = 6;

        private final long[] one = new long[LIMBS];
        private final long[] part = new long[LIMBS];
        private final long[] whole = new long[LIMBS];

        int millionths(Herd herd, Judge judge, int cow, int left) {
            Arrays.fill(whole, 0L);
            for (int many = 0; many <= herd.wayLength[cow]; many++) {
                weigh(herd, judge, cow, many);
                addOneToWhole();
                if (many == left) {
                    System.arraycopy(one, 0, part, 0, LIMBS);
                }
            }
            return isZero(whole) ? NONE : divide();
        }

        /** Sets one to how likely so much LEFT is, beside others. */
        private void weigh(Herd herd, Judge judge, int cow, int many) {
            Law law = herd.lawInForce();
            int home = herd.homes();
            Arrays.fill(one, 0L);
            one[0] = 1;
            for (int ear = 0; ear < herd.ears; ear++) {
                if (herd.earNote[ear] == herd.trait(cow, NOTE)) {
                    judge.describe(herd, cow, many, NONE, home, herd.earLoud[ear]);
                    multiply(one, judge.tells(law, LOUD) ? judge.worthWithin(LOUDEST_TOLD) : LOUD_WITHOUT);
                }
            }
        }

        /** Long division of part, a digit behind the point after the other. */
        private int divide() {
            int quotient = 0;
            for (int digit = 0; digit <= DIGITS; digit++) {
                quotient *= 10;
                if (digit > 0) {
                    multiply(part, 10);
                }
                for (int times = 0; times < 10 && isWholeInPart(); times++) {
                    takeWholeFromPart();
                    quotient++;
                }
            }
            return quotient;
        }

        private static boolean isZero(long[] number) {
            for (int i = 0; i < LIMBS; i++) {
                if (number[i] != 0) {
                    return false;
                }
            }
            return true;
        }

        private static void multiply(long[] number, int by) {
            long carry = 0;
            for (int i = 0; i < LIMBS; i++) {
                carry += number[i] * by;
                number[i] = carry % BILLION;
                carry /= BILLION;
            }
        }

        private void addOneToWhole() {
            long carry = 0;
            for (int i = 0; i < LIMBS; i++) {
                carry += whole[i] + one[i];
                whole[i] = carry % BILLION;
                carry /= BILLION;
            }
        }

        private boolean isWholeInPart() {
            for (int i = LIMBS - 1; i >= 0; i--) {
                if (part[i] != whole[i]) {
                    return part[i] > whole[i];
                }
            }
            return true;
        }

        private void takeWholeFromPart() {
            long borrow = 0;
            for (int i = 0; i < LIMBS; i++) {
                long limb = part[i] - whole[i] - borrow;
                borrow = limb < 0 ? 1 : 0;
                part[i] = limb + borrow * BILLION;
            }
        }
    }
}
