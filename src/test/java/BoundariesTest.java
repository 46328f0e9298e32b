import java.io.IOException;
import java.math.BigInteger;
import java.nio.file.Files;
import java.nio.file.Path;

/**
 * Sentence by sentence of the document, each that names a boundary: the last that is taken and the first that is not on
 * each side, the empty and the full. A sentence is given in the document's own words, and must stand there.
 * What a call that is REFUSED leaves as it is: RefusedTest.
 */
public final class BoundariesTest extends Trial {
    private static final int MIN = Integer.MIN_VALUE;
    private static final int MAX = Integer.MAX_VALUE;

    private final String document;

    private BoundariesTest(String document) {
        this.document = document;
    }

    private void sentence(String words, Runnable test) {
        about = '"' + words + '"';
        due("the document says so", document.contains(words) ? 1 : 0, 1);
        x = new BellHerd();
        test.run();
    }

    /** A trait of a COW: by cow() and put() least .. most, and neither one less nor one more. */
    private void trait(int what, int least, int most) {
        int[] of = {3, 0, 2, 3, 4};
        for (int value : new int[] {MIN, least - 1, least, most, most + 1, MAX}) {
            boolean fine = value >= least && value <= most;
            x = new BellHerd();
            int[] with = of.clone();
            with[what] = value;
            if (what != 1) {
                due("cow with " + value, x.cow(with[0], with[2], with[3], with[4]), fine ? 0 : -1);
                due("of", x.of(0, what), fine ? value : -1);
            }
            x = new BellHerd();
            x.cow(of[0], of[2], of[3], of[4]);
            due("put of " + value, x.put(0, what, value), fine ? of[what] : -1);
            for (int other = 0; other < 5; other++) {
                due("of(0, " + other + ")", x.of(0, other), fine && other == what ? value : of[other]);
            }
        }
    }

    /** A byte alone on the TAPE becomes a ROW: whether it is kept. */
    private void kept(int what, int value, boolean fine) {
        x = new BellHerd();
        x.cow(0, 1, 0, 0);
        due("a ROW of " + value, row(what, 0, value), fine ? 1 : 0);
        due("lost()", x.lost(), fine ? 0 : 1);
        int got = what == 0 ? x.cell(0, 0) : x.note(what == 1 ? 0 : 4, 0);
        due("what was kept", got, fine ? value : -1);
    }

    private static int[] from(int first, int n) {
        int[] row = new int[n];
        for (int i = 0; i < n; i++) {
            row[i] = first + i;
        }
        return row;
    }

    private void termsOne() {
        sentence("COWS 0 .. 4 (5 at most)", () -> {
            due("count(0)", x.count(0), 0);
            for (int i = 0; i < 5; i++) {
                due("of ahead of it", x.of(i, 2), -1);
                due("cow", x.cow(i, 1 + i % 3, i, i), i);
                due("of", x.of(i, 2), 1 + i % 3);
            }
            due("a sixth", x.cow(0, 1, 0, 0), -5);
            due("count(0)", x.count(0), 5);
            due("of(5, 2)", x.of(5, 2), -1);
        });
        sentence("a bell's NOTE 0 .. 23", () -> trait(0, 0, 23));
        sentence("CRACKED or not (not at first)", () -> {
            x.cow(1, 1, 1, 1);
            due("of(0, 1)", x.of(0, 1), 0);
            trait(1, 0, 1);
        });
        sentence("PACE 1 .. 3", () -> trait(2, 1, 3));
        sentence("FEAR 0 .. 9", () -> trait(3, 0, 9));
        sentence("AGE 0 .. 30", () -> trait(4, 0, 30));
        sentence("CELLS 0 .. 63, one behind the other", () -> {
            for (int cell : new int[] {0, 1, 62, 63, 64, 65, 127, 128, 255}) {
                kept(0, cell, cell <= 63);
            }
            cows(1);
            row(0, 0, 63, 0, 62);
            due("cell(0, 0)", x.cell(0, 0), 63);
            due("cell(0, 1)", x.cell(0, 1), 0);
            due("cell(0, 2)", x.cell(0, 2), 62);
        });
        sentence("9 at most, each once", () -> {
            cows(1);
            due("eight", row(0, 0, from(10, 8)), 8);
            due("nine", row(0, 0, from(10, 9)), 9);
            due("lost()", x.lost(), 0);
            due("ten", row(0, 0, from(10, 10)), 9);
            due("lost()", x.lost(), 1);
            due("cell(0, 8)", x.cell(0, 8), 18);
            due("cell(0, 9)", x.cell(0, 9), -1);
            due("nine, two of them twice", row(0, 0, 1, 2, 2, 3, 4, 5, 6, 7, 8, 1, 9), 9);
            due("lost()", x.lost(), 2);
            due("cell(0, 8)", x.cell(0, 8), 9);
            due("one four times", row(0, 0, 7, 7, 7, 7), 1);
            due("a CELL of the WAY that was", row(0, 0, 8, 7), 2);
        });
        sentence("behind the last of which is HOME (none at first)", () -> {
            cows(1);
            due("of(0, 6)", x.of(0, 6), 0);
            due("of(0, 5)", x.of(0, 5), 0);
            due("of(0, 7)", x.of(0, 7), -1);
            due("cell(0, 0)", x.cell(0, 0), -1);
            due("count(5)", x.count(5), 1);
            row(0, 0, 3);
            due("count(5)", x.count(5), 0);
            x.order(0);
            due("call(0)", x.call(0), 1);
            due("count(5)", x.count(5), 1);
            due("of(0, 7)", x.of(0, 7), -1);
        });
        sentence("how many CELLS are left of it, the one it stands in counted, 0: it is HOME (a new WAY: all of them)",
                this::leftOfAWay);
        sentence("No two stand in one CELL.", this::noTwoInOneCell);
        sentence("WIND 0 .. 3 (0 at first)", () -> {
            int was = 0;
            for (int wind : new int[] {0, 3, -1, 4, 1, MIN, MAX, 2, 0}) {
                boolean fine = wind >= 0 && wind <= 3;
                due("wind(" + wind + ")", x.wind(wind), fine ? was : -1);
                was = fine ? wind : was;
            }
        });
        sentence("TUNES 0 .. 3: rows of NOTES, 12 at most (none at first)", this::tunes);
        sentence("GAPS, 5 at most: CELLS with wolves", () -> {
            for (int i = 0; i < 5; i++) {
                due("gap", x.gap(10 + i), i + 1);
            }
            due("a sixth", x.gap(15), -5);
            due("count(2)", x.count(2), 5);
            due("guard(31)", x.guard(31), 0);
            for (int cell : new int[] {MIN, -1, 0, 63, 64, MAX}) {
                x = new BellHerd();
                due("gap(" + cell + ")", x.gap(cell), cell == 0 || cell == 63 ? 1 : -1);
            }
        });
    }

    private void leftOfAWay() {
        cows(1);
        due("left(0, 0) without a WAY", x.left(0, 0), 0);
        due("left(0, 1) without a WAY", x.left(0, 1), -1);
        row(0, 0, from(20, 9));
        due("of(0, 5)", x.of(0, 5), 9);
        due("of(0, 7)", x.of(0, 7), 20);
        int was = 9;
        for (int left = 0; left <= 9; left++) {
            due("left(0, " + left + ")", x.left(0, left), was);
            due("of(0, 5)", x.of(0, 5), left);
            due("of(0, 6)", x.of(0, 6), 9);
            due("of(0, 7)", x.of(0, 7), left == 0 ? -1 : 29 - left);
            due("count(5)", x.count(5), left == 0 ? 1 : 0);
            was = left;
        }
        due("left(0, 10)", x.left(0, 10), -1);
        due("left(0, -1)", x.left(0, -1), -1);
        x.left(0, 1);
        row(0, 0, 5, 6);
        due("of(0, 5) of a new WAY", x.of(0, 5), 2);
        x.left(0, 0);
        row(0, 0, 5, 6, 7);
        due("of(0, 5) of a new WAY, from HOME", x.of(0, 5), 3);
        due("left(0, 4), beyond the new WAY", x.left(0, 4), -1);
    }

    private void noTwoInOneCell() {
        cows(2);
        row(0, 0, 1, 2);
        row(0, 1, 3, 1);
        due("left(1, 1), where COW 0 stands", x.left(1, 1), -3);
        due("left(1, 2), where it stands itself", x.left(1, 2), 2);
        due("row, where COW 0 stands", row(0, 1, 1), -3);
        due("row, where it stands itself", row(0, 1, 3, 1), 2);
        due("call(1), ahead of COW 0", x.call(1), 0);
        x.left(0, 0);
        due("left(1, 1), where nobody stands", x.left(1, 1), 2);
        due("left(0, 2), where COW 1 stands", x.left(0, 2), -3);
        x.left(1, 0);
        due("left(0, 0), both HOME", x.left(0, 0), 0);
        due("count(5): HOME is no CELL", x.count(5), 2);
    }

    private void tunes() {
        for (int tune = 0; tune < 4; tune++) {
            due("note(" + tune + ", -1)", x.note(tune, -1), 0);
            due("note(" + tune + ", 0)", x.note(tune, 0), -1);
        }
        for (int value : new int[] {0, 1, 22, 23, 24, 25, 127, 128, 255}) {
            kept(1, value, value <= 23);
        }
        for (int tune : new int[] {MIN, -1, 0, 3, 4, MAX}) {
            boolean fine = tune == 0 || tune == 3;
            due("row(1, " + tune + ")", row(1, tune, 7), fine ? 1 : -1);
            due("note(" + tune + ", 0)", x.note(tune, 0), fine ? 7 : -1);
        }
        for (int tune = 0; tune < 4; tune++) {
            due("twelve", row(1, tune, from(tune, 12)), 12);
            due("lost()", x.lost(), 0);
        }
        for (int tune = 0; tune < 4; tune++) {
            due("note(" + tune + ", -1)", x.note(tune, -1), 12);
            due("note(" + tune + ", 0)", x.note(tune, 0), tune);
            due("note(" + tune + ", 11)", x.note(tune, 11), tune + 11);
            due("note(" + tune + ", 12)", x.note(tune, 12), -1);
        }
        due("thirteen", row(1, 1, from(0, 13)), 12);
        due("lost()", x.lost(), 1);
        due("thirteen, one of which can't be", row(1, 1, 1, 2, 3, 4, 5, 6, 24, 7, 8, 9, 10, 11, 12), 12);
        due("lost()", x.lost(), 1);
        due("note(1, 11)", x.note(1, 11), 12);
        due("a shorter one", row(1, 1, 5), 1);
        due("note(1, 1)", x.note(1, 1), -1);
        due("note(2, 0), of the next TUNE", x.note(2, 0), 2);
    }

    private void termsTwo() {
        sentence("LAWS are TEXTS, 6 at most", () -> {
            for (int i = 0; i < 6; i++) {
                due("count(1)", x.count(1), i);
                due("law", law("rank " + i), i);
            }
            due("a seventh", law("rank 6"), -5);
            due("count(1)", x.count(1), 6);
            due("force(5)", x.force(5), -1);
            due("force(6)", x.force(6), -2);
        });
        sentence("on a TAPE of at most 400 bytes", this::fullTape);
        sentence("one is in FORCE (NONE at first: no CLAUSE)", () -> {
            due("count(12)", x.count(12), -1);
            cows(1);
            law("steps 3");
            row(0, 0, 1, 2, 3, 4);
            due("count(12), when a LAW is there", x.count(12), -1);
            due("call(0) by PACE", x.call(0), 1);
            due("force(0)", x.force(0), -1);
            x.left(0, 4);
            due("call(0) by the LAW", x.call(0), 3);
            due("force(-1)", x.force(-1), 0);
            x.left(0, 4);
            due("call(0) by PACE again", x.call(0), 1);
        });
        sentence("TOKENS: longest rows of letters a .. z, of digits, single other bytes, any blanks (32) between.",
                this::tokens);
        sentence("12 at most (FAULT at the 13th's first TOKEN)", () -> {
            faultOf("balks" + times(";balks", 10), -1);
            faultOf("balks" + times(";balks", 11), -1);
            faultOf("balks" + times(";balks", 12), 72);
            faultOf("balks" + times(";balks", 11) + ";  follows", 74);
            faultOf("balks" + times(";balks", 11) + ";no", 72);
            faultOf("balks" + times(";balks", 11) + ";", 72);
            faultOf("balks" + times(";balks", 11) + ";  ", 74);
            faultOf("balks" + times(";balks", 11) + " 1", 72);
        });
        sentence("NUMBER (to 1,000)", () -> {
            faultOf("rank 0", -1);
            faultOf("rank 999", -1);
            faultOf("rank 1000", -1);
            faultOf("rank 1001", 5);
            faultOf("rank 1000+1001", 10);
            faultOf("rank 2000", 5);
            faultOf("rank 10000", 5);
            faultOf("rank 2147483648", 5);
            faultOf("rank 4294967296", 5);
            faultOf("rank 18446744073709551616", 5);
            faultOf("rank " + times("0", 391) + "1000", -1);
            faultOf("rank " + times("0", 391) + "1001", 5);
            faultOf("rank " + times("9", 395), 5);
        });
        sentence("50 PARTS that are NUMBERS and words (FAULT at the 51st)", () -> {
            faultOf("rank 1" + times("+1", 48), -1);
            faultOf("rank 1" + times("+1", 49), -1);
            faultOf("rank 1" + times("+1", 50), 105);
            faultOf("rank 1" + times("+1", 49) + "+left", 105);
            faultOf("rank 1" + times("+1", 49) + "+1001", 105);
            faultOf("rank 1" + times("+1", 49) + "+[1]", 106);
            faultOf("rank 1" + times("+1", 49) + "+", 105);
            faultOf("rank 1" + times("+1", 49) + ";balks", -1);
            faultOf("rank 1" + times("+1", 47) + " if 1=1", -1);
            faultOf("rank 1" + times("+1", 48) + " if 1=1", 108);
            faultOf("rank 1" + times("+1", 47) + ";rank 1;loud 1;loud 1", 120);
        });
        sentence("50 PARTS that are NUMBERS and words", this::partsOfEachLaw);
        sentence("8 brackets of both kinds within one another (FAULT at the 9th) at most", this::brackets);
        sentence("the first TOKEN that can't go on there (the end's: the TEXT's length)", this::ends);
        sentence("Beyond 1,000,000,000 either way, or divided by 0, a SUM, a TEST is BROKEN", this::broken);
        sentence("/ is cut towards 0", () -> {
            tells("7 / 2", 3);
            tells("[0 - 7] / 2", -3);
            tells("7 / [0 - 2]", -3);
            tells("[0 - 7] / [0 - 2]", 3);
            tells("[0 - 1] / 2", 0);
            tells("1 / 2", 0);
            tells("0 / 5", 0);
            tells("[0 - 6] / 3", -2);
            tells("[0 - 1] / 1000", 0);
        });
        sentence("neither that nor its SUM is BROKEN (\"or\", \"and\" ask what stands behind only if it can still matter)",
                this::asksWhatMatters);
        sentence("Told by a HEAD is what the last CLAUSE with it that HOLDS tells.", () -> {
            tells("1; rank 2; rank 3", 3);
            tells("1; rank 2; rank 3 if 1 > 2", 2);
            tells("1 if 1 > 2; rank 2 if 1 > 2", 0);
            tells("1; rank 2 / 0; loud 9; steps 8", 1);
            tells("1" + times("; rank 2", 9) + "; rank 3", 3);
        });
        sentence("NOTE -1, if its bell is CRACKED", () -> {
            cows(2);
            rule("rank note; rank 0 if cow = 1");
            due("who(0, 1)", x.who(0, 1), 1);
            x.put(0, 0, 0);
            due("who(0, 1) by NOTE 0", x.who(0, 1), 0);
            x.put(1, 1, 1);
            due("who(0, 1), COW 1 is not asked its NOTE", x.who(0, 1), 0);
            rule("rank 0; rank 5 if note = 0 - 1 and cow = 0");
            due("who(0, 1), not CRACKED", x.who(0, 1), 0);
            x.put(0, 1, 1);
            due("who(0, 1), CRACKED", x.who(0, 1), 1);
        });
        sentence("called: who is called (-1: nobody), home: how many are HOME then, heard: how loud (0 but for \"loud\")",
                this::calledHomeHeard);
    }

    private void fullTape() {
        for (int i = 1; i <= 19; i++) {
            due("feed", x.feed(0x20202020, 0x20202020, 0x20202020, 0x20202020, 0x20202020), 20 * i);
        }
        due("end(379)", x.end(379), 379);
        due("feed to 399", x.feed(0, 0, 0, 0, 0x20202020), 399);
        due("feed beyond 400", x.feed(0, 0, 0, 0, 0), -1);
        due("end(380)", x.end(380), 380);
        due("feed to 400", x.feed(0x20202020, 0x20202020, 0x20202020, 0x20202020, 0x20202020), 400);
        due("feed beyond 400", x.feed(0, 0, 0, 0, 0), -1);
        due("count(6)", x.count(6), 400);
        due("end(401)", x.end(401), -1);
        due("end(400)", x.end(400), 400);
        faultOf(times(" ", 400), 400);
        faultOf(times(" ", 395) + "balks", -1);
        faultOf(times(" ", 394) + "balks;", 400);
        faultOf("balks if " + times("not ", 97) + "1=1", -1);
        faultOf("balks if 1=1" + times(" or 1=1", 24), -1);
        faultOf(times(" ", 396) + "balk", 396);
        faultOf(times(" ", 399) + "f", 399);
        faultOf(times(" ", 391) + "rank 1000", -1);
        faultOf(times(" ", 391) + "rank 1001", 396);
        faultOf(times("a", 400), 0);
        faultOf(times("[", 400), 0);
        faultOf("rank " + times("[", 395), 13);
        due("a ROW of 400 bytes", row(2, 0, from(0, 400)), 24);
        due("lost()", x.lost(), 376);
    }

    private void tokens() {
        faultOf("balks", -1);
        faultOf("balksa", 0);
        faultOf("balksz", 0);
        faultOf("abalks", 0);
        faultOf("zbalks", 0);
        faultOf("steps 1a", 7);
        faultOf("steps 1z", 7);
        faultOf("steps 190", -1);
        faultOf("steps 1" + (char) ('9' + 1), 7);
        faultOf("balk", 0);
        faultOf("bal ks", 0);
        faultOf("steps2", -1);
        faultOf("steps 2if 1=1", -1);
        faultOf("steps 2if1=1and2=2or3=3", -1);
        faultOf("steps note2", 10);
        faultOf("steps 2note", 7);
        faultOf("steps 1 0", 8);
        faultOf("balks if 1<=2", 11);
        faultOf("balks if 1==2", 11);
        faultOf("balks if 1>>2", 11);
        faultOf("  balks  if  1  =  1  ", -1);
        faultOf("BALKS", 0);
        faultOf("Steps 1", 0);
        for (char odd : new char[] {0, 9, 10, 13, 31, 33, '`', '{', '@', 'A', 'Z', ':', '.', 127, 128, 160, 255}) {
            faultOf("balks" + odd, 5);
            faultOf("steps" + odd + "1", 5);
            faultOf("steps 1" + odd, 7);
            faultOf(odd + "balks", 0);
        }
        cows(2);
        rule("steps0003");
        row(0, 0, 1, 2, 3, 4);
        due("call(0) by steps0003", x.call(0), 3);
    }

    /** What one LAW had, and what one that could not be read had, is not counted in the next. */
    private void partsOfEachLaw() {
        cows(2);
        for (int i = 0; i < 6; i++) {
            due("one of 51", law("rank 1" + times("+1", 50)), -6);
            due("one of 50", law("rank " + i + times("+cow", 49)), i);
            due("thirteen CLAUSES", law("balks" + times(";balks", 12)), i < 5 ? -6 : -5);
        }
        for (int i = 0; i < 6; i++) {
            x.force(i);
            due("who(0, 1)", x.who(0, 1), 0);
        }
        cows(2);
        for (int i = 0; i < 6; i++) {
            due("law", law("rank " + (i % 2 == 0 ? "0-49*cow" : "cow") + times("+1", 47)), i);
        }
        for (int i = 0; i < 6; i++) {
            x.force(i);
            due("who(0, 1) by LAW " + i, x.who(0, 1), i % 2 == 0 ? 1 : 0);
        }
    }

    private void brackets() {
        for (int n : new int[] {1, 7, 8}) {
            faultOf("rank " + times("[", n) + "1" + times("]", n), -1);
            faultOf("balks if " + times("(", n) + "1=1" + times(")", n), -1);
        }
        faultOf("rank " + times("[", 9) + "1" + times("]", 9), 13);
        faultOf("balks if " + times("(", 9) + "1=1" + times(")", 9), 17);
        faultOf("balks if " + times("(", 8) + "[1]=1" + times(")", 8), 17);
        faultOf("balks if " + times("(", 8) + "1=[1]" + times(")", 8), 19);
        faultOf("balks if " + times("(", 4) + times("[", 4) + "1" + times("]", 4) + "=1" + times(")", 4), -1);
        faultOf("balks if " + times("(", 4) + times("[", 5) + "1" + times("]", 5) + "=1" + times(")", 4), 17);
        faultOf("balks if " + times("(", 4) + "1=" + times("[", 4) + "1" + times("]", 4) + times(")", 4), -1);
        faultOf("balks if " + times("(", 7) + "1=1" + times(")", 7) + " and " + times("(", 8) + "1=1" + times(")", 8), -1);
        faultOf("rank " + times("[", 8) + "1" + times("]", 8) + "*" + times("[", 8) + "1" + times("]", 8), -1);
        faultOf("rank " + times("[", 8) + "1" + times("]", 7), 21);
        faultOf("rank " + times("[", 8) + "1" + times("]", 9), 22);
        faultOf("rank [1)", 7);
        faultOf("balks if (1=1]", 13);
        faultOf("rank []", 6);
        faultOf("balks if ()", 10);
    }

    private void ends() {
        String[] texts = {"", " ", "steps", "rank ", "loud  ", "balks if", "balks if ", "steps 1+", "steps 1*", "steps [",
            "steps [1", "balks if 1", "balks if 1<", "balks if not", "balks if (", "balks if (1=1", "balks if 1=1 and",
            "balks if 1=1 or ", "balks;", "balks ; "};
        for (String text : texts) {
            faultOf(text, text.length());
        }
        faultOf("follows", -1);
        faultOf("follows if 1=1", -1);
        faultOf("follows 1", 8);
        faultOf("balks left", 6);
        faultOf("rank if", 5);
        faultOf("rank 1 if if", 10);
        faultOf("if 1=1", 0);
        faultOf("1", 0);
        faultOf(";", 0);
        faultOf("balks;;balks", 6);
        faultOf("balks, balks", 5);
        faultOf("balks if 1 and 2", 11);
        faultOf("balks if 1=1 not 1=1", 13);
        faultOf("balks if [1=1]", 11);
        faultOf("balks if (1)", 11);
        faultOf("rank (1)", 5);
        faultOf("rank 1-", 7);
        faultOf("rank -1", 5);
        faultOf("rank 1 + - 1", 9);
        faultOf("rank not", 5);
        faultOf("rank steps", 5);
    }

    /** That "rank" tells so much: COW 1, of whom that is told for sure, is not ahead of COW 0, but is with one less. */
    private void tells(String clauses, int worth) {
        tells(clauses, worth < 0 ? "0 - " + -worth : String.valueOf(worth));
    }

    private void tells(String clauses, String worth) {
        cows(2);
        rule("rank " + clauses + "; rank " + worth + " if cow = 1");
        due("who(0, 1) by rank " + clauses + " and " + worth, x.who(0, 1), 0);
        rule("rank " + clauses + "; rank " + worth + " - 1 if cow = 1");
        due("who(0, 1) by rank " + clauses + " and " + worth + " - 1", x.who(0, 1), 1);
    }

    private void broken() {
        String billion = "1000*1000*1000";
        String below = "0-1000*1000*1000";
        tells("7; rank " + billion, billion);
        tells("7; rank " + billion + "+1", 7);
        tells("7; rank " + billion + "+1-1", 7);
        tells("7; rank 1+" + billion, 7);
        tells("7; rank " + billion + "-1", billion + "-1");
        tells("7; rank " + below + "+1", below + "+1");
        tells("7; rank " + below + "-1", 7);
        tells("7; rank " + below + "-1+1", 7);
        tells("7; rank 1-1-" + billion + "+5", below + "+5");
        tells("7; rank " + billion + "*2", 7);
        tells("7; rank " + billion + "*1000", 7);
        tells("7; rank " + billion + "*1000*0", 7);
        tells("7; rank " + billion + "*1000*1000*1000*1000*1000*1000", 7);
        tells("7; rank [" + below + "]*[0-1]", billion);
        tells("7; rank [" + below + "]*2", 7);
        tells("7; rank " + billion + "/1000*999", "999*1000*1000");
        tells("7; rank 5/1", 5);
        tells("7; rank 5/[0-1]", -5);
        tells("7; rank 5/0", 7);
        tells("7; rank 0/0", 7);
        tells("7; rank 5/[3-3]", 7);
        tells("7; rank 5/0*0", 7);
        tells("7; rank 5/[1/2]", 7);
        tells("7; rank 8 if " + billion + " > 0", 8);
        tells("7; rank 8 if " + billion + "+1 > 0", 7);
        tells("7; rank 8 if 0 < " + billion + "+1", 7);
        tells("7; rank 8 if 1/0 = 1/0", 7);
        tells("7; rank 8 if not 1/0 = 1", 7);
        tells("7; rank 8 if not not 1/0 = 1", 7);
        below();
    }

    /** tells() can't ask of the lowest that is not BROKEN, for one less would be. */
    private void below() {
        cows(2);
        rule("rank 0; rank 0-1000*1000*1000 if cow=1");
        due("who(0, 1) by a billion below 0", x.who(0, 1), 1);
        rule("rank 0; rank 0-1000*1000*1000-1 if cow=1");
        due("who(0, 1) by one more", x.who(0, 1), 0);
        rule("rank 0-999; rank 0-1000*1000*1000/1000/1000 if cow=1");
        due("who(0, 1) by 1,000 below 0", x.who(0, 1), 1);
    }

    private void asksWhatMatters() {
        tells("7; rank 8 if 1=1 or 1/0=1", 8);
        tells("7; rank 8 if 1=2 or 1/0=1", 7);
        tells("7; rank 8 if 1/0=1 or 1=1", 7);
        tells("7; rank 8 if 1=2 and 1/0=1", 7);
        tells("7; rank 8 if not (1=2 and 1/0=1)", 8);
        tells("7; rank 8 if not (1=1 and 1/0=1)", 7);
        tells("7; rank 8 if not (1/0=1 and 1=2)", 7);
        tells("7; rank 8 if 1=1 or 1/0=1 or 1/0=2", 8);
        tells("7; rank 8 if 1=2 or 1=1 or 1/0=2", 8);
        tells("7; rank 8 if 1=1 or 1=1 and 1/0=1", 8);
        tells("7; rank 8 if 1=2 and 1/0=1 or 1=1", 8);
        tells("7; rank 8 if 1=2 and 1/0=1 and 1/0=2 or 1=1", 8);
        tells("7; rank 8 if (1=1 or 1/0=1) and 1=1", 8);
        tells("7; rank 8 if not (1=1 or 1/0=1) or 1=1", 8);
        tells("7; rank 8 if 1=1", 8);
        tells("7; rank 8 if 1=2", 7);
        tells("7; rank 8 if not 1=1", 7);
        tells("7; rank 8 if not 1=2", 8);
        tells("7; rank 8 if not 1<2", 7);
        tells("7; rank 8 if not 2<1", 8);
        tells("7; rank 8 if not 2>1", 7);
        tells("7; rank 8 if not 1>2", 8);
        tells("7; rank 8 if not not 1=1", 8);
        tells("7; rank 8 if not not 1=2", 7);
        tells("7; rank 8 if not not not 1=1", 7);
        tells("7; rank 8 if not (not 1=1)", 8);
        tells("7; rank 8 if not (not 1=2)", 7);
        tells("7; rank 8 if not 1=1 or 1=1", 8);
        tells("7; rank 8 if not (1=1 or 1=1)", 7);
        tells("7; rank 8 if not 1=1 and 1=2 or 1=1", 8);
        tells("7; rank 8 if 1=1 or 1=1 and 1=2", 8);
        tells("7; rank 8 if (1=1 or 1=1) and 1=2", 7);
        tells("7; rank 1/0 if 1=1", 7);
        tells("7; rank 1/0 if 1=2", 7);
        tells("7; rank 8 if not 1=2 and 1=2", 7);
        tells("7; rank 8 if not (1=2 and 1=2)", 8);
        tells("7; rank 8 if 2<2", 7);
        tells("7; rank 8 if 2>2", 7);
        tells("7; rank 8 if 1<2", 8);
        tells("7; rank 8 if 2>1", 8);
        tells("7; rank 8 if 1>2", 7);
        tells("7; rank 8 if 2<1", 7);
    }

    private void calledHomeHeard() {
        tells("called", -1);
        tells("home", 2);
        tells("heard", 0);
        cows(3);
        row(0, 0, 1, 2, 3, 4);
        row(0, 1, 11, 12, 13, 14);
        rule("steps 0; steps 2 if called = cow and home = 1 and heard = 0; follows if called = 1 and cow = 0 and heard = 0");
        due("call(0)", x.call(0), 2);
        due("call(1), which COW 0 follows", x.call(1), 3);
        rule("steps 1; follows if cow = 1 and home = 2");
        x.order(0);
        due("call(0), one is HOME then", x.left(0, 2) == 1 ? x.call(0) : -9, 1);
        due("call(0), two are HOME then: COW 1 follows", x.call(0), 2);
        x = new BellHerd();
        x.cow(4, 1, 0, 0);
        row(0, 0, 1);
        rule("loud 10 if called = 0 - 1 and home = 0; loud heard if heard > 0 and left = 0");
        x.ear(4, 0);
        due("likely(0, 0), heard 0", x.likely(0, 0), 500_000);
        x.ear(4, 9);
        due("likely(0, 0), heard 9, too", x.likely(0, 0), 473_684);
    }

    private void termsThree() {
        sentence("goes on by what \"steps\" tells, 0 .. 3 CELLS (else the nearest), its PACE without", this::steps);
        sentence("A CALL of a COW that is not HOME", () -> {
            cows(1);
            due("call(0), without a WAY", x.call(0), -3);
            row(0, 0, 1, 2);
            due("call(0), two LEFT", x.call(0), 1);
            x.order(0);
            due("call(0), one LEFT", x.call(0), 1);
            due("call(0), none LEFT", x.call(0), -3);
        });
        sentence("unless \"balks\" HOLDS for it", () -> {
            cows(1);
            row(0, 0, 1, 2, 3);
            rule("balks");
            due("call(0), which balks: a CALL that can be", x.call(0), 0);
            due("status()", x.status(), 0);
            due("of(0, 5)", x.of(0, 5), 3);
            rule("balks if 1 / 0 = 1");
            due("call(0), BROKEN", x.call(0), 1);
        });
        sentence("it stops ahead of a CELL in which another one stands", this::stops);
        sentence("by numbers, each other COW that is not HOME, for which \"follows\" HOLDS and \"balks\" does not, goes on by "
                + "one CELL, if nobody stands there", this::follow);
        sentence("Each is asked when its turn comes.", this::askedInTurn);
        sentence("if by that one would come HOME that is not the next of the ORDER", this::homeByOrder);
        sentence("or one would stand at last in a CELL with wolves that is not GUARDED", this::wolves);
        sentence("ORDER: a row of COWS, each once (empty at first): those that are HOME already are passed by.", () -> {
            cows(5);
            due("count(3)", x.count(3), 0);
            due("who(0, 0)", x.who(0, 0), -1);
            for (int i = 0; i < 5; i++) {
                due("order", x.order(4 - i), i + 1);
                due("order again", x.order(4 - i), -3);
            }
            row(0, 0, 1);
            due("call(0), the last of the ORDER", x.call(0), 1);
            due("drive(0), all are HOME", x.drive(0), 0);
        });
        sentence("A DRIVE is a row of CALLS that can be, behind which all of the ORDER are HOME.", this::driveEdges);
        sentence("A DRIVE is a row of CALLS that can be", this::drivesOfCallsThatCanBe);
        sentence("SHORTEST DRIVES have the fewest CALLS; the FIRST of them as a row of COWS.", () -> {
            cows(3);
            row(0, 0, 1, 2);
            row(0, 1, 3);
            row(0, 2, 4, 5);
            x.order(1);
            x.order(2);
            int[] first = {1, 2, 2};
            due("drive(0)", x.drive(0), 3);
            due("drive(1)", x.drive(1), 2);
            for (int i = 0; i < 3; i++) {
                due("calls(" + i + ")", x.calls(i), first[i]);
            }
            for (int i : new int[] {MIN, -1, 3, MAX}) {
                due("calls(" + i + ")", x.calls(i), -1);
            }
        });
        sentence("Of GAPS some are GUARDED (bits; none at first).", () -> {
            due("guard(0)", x.guard(0), 0);
            due("guard(1) without GAPS", x.guard(1), -1);
            int was = 0;
            for (int gaps = 1; gaps <= 5; gaps++) {
                x.gap(gaps);
                int all = (1 << gaps) - 1;
                due("guard(" + all + ")", x.guard(all), was);
                due("guard(" + (all + 1) + ")", x.guard(all + 1), -1);
                was = all;
            }
            due("guard(32)", x.guard(32), -1);
            due("guard(-1)", x.guard(-1), -1);
            due("guard(MIN)", x.guard(MIN), -1);
            due("guard(MAX)", x.guard(MAX), -1);
            due("guard(0)", x.guard(0), 31);
        });
        sentence("DOGS: the fewest GAPS that must be GUARDED for a DRIVE; of alike ones the lowest as bits.", this::dogs);
        sentence("NOTE by NOTE the lowest COW that was not led yet, whose bell has it and is not CRACKED, is led", this::leads);
        sentence("It can be RUNG, if all its NOTES are led.", () -> {
            cows(5);
            due("rung(0) without NOTES", x.rung(0), 1);
            row(1, 0, 5, 6, 7, 8, 9);
            due("rung(0)", x.rung(0), 1);
            row(1, 0, 5, 6, 7, 8, 9, 9);
            due("rung(0), one NOTE too many", x.rung(0), 0);
            row(1, 0, 5, 6, 7, 8, 10);
            due("rung(0), one NOTE other", x.rung(0), 0);
            row(1, 0, 9, 8, 7, 6, 5);
            due("rung(0)", x.rung(0), 1);
            x.put(4, 1, 1);
            due("rung(0), one CRACKED", x.rung(0), 0);
        });
        sentence("each to another one, none CRACKED: those whose bell has a lower NOTE are recast to it, one with a higher "
                + "NOTE can't be", this::recasts);
        sentence("FEWEST: as few as can be; the FIRST of them: as a row of COWS by NOTES.", () -> {
            x.cow(4, 1, 0, 0);
            x.cow(6, 1, 0, 0);
            x.cow(6, 1, 0, 0);
            x.cow(5, 1, 0, 0);
            row(1, 0, 6, 7);
            due("recast(0, 0)", x.recast(0, 0), 1);
            due("recast(0, 1)", x.recast(0, 1), 6);
            due("hoof(0, 0)", x.hoof(0, 0), 1);
            due("hoof(0, 1)", x.hoof(0, 1), 0);
            due("cast(0)", x.cast(0), 1);
            due("of(0, 0)", x.of(0, 0), 7);
            due("of(1, 0)", x.of(1, 0), 6);
            due("of(2, 0)", x.of(2, 0), 6);
            due("of(3, 0)", x.of(3, 0), 5);
        });
        sentence("of all COWS the one without which most TUNES that have NOTES can be RUNG", this::sold);
        sentence("together are least (one that can't be had: 13), then the lowest", this::soldAlike);
    }

    private void steps() {
        String[] sums = {"0 - 1000 * 1000 * 1000", "0 - 1", "0", "1", "2", "3", "4", "1000 * 1000 * 1000"};
        int[] gone = {0, 0, 0, 1, 2, 3, 3, 3};
        for (int i = 0; i < sums.length; i++) {
            cows(1);
            row(0, 0, 1, 2, 3, 4, 5);
            rule("steps " + sums[i]);
            due("call(0) by steps " + sums[i], x.call(0), gone[i]);
            due("of(0, 5)", x.of(0, 5), 5 - gone[i]);
        }
        for (int pace = 1; pace <= 3; pace++) {
            cows(1);
            x.put(0, 2, pace);
            row(0, 0, 1, 2, 3, 4, 5);
            rule("steps 0 if 1 = 2; steps 0 / 0");
            due("call(0) by PACE", x.call(0), pace);
            x.order(0);
            x.left(0, 1);
            due("call(0), HOME is the end", x.call(0), 1);
            due("of(0, 5)", x.of(0, 5), 0);
        }
    }

    private void stops() {
        cows(2);
        x.put(0, 2, 3);
        row(0, 0, 1, 2, 3, 4, 5);
        row(0, 1, 2, 3, 4, 5, 9);
        int[] gone = {0, 1, 2, 3, 3};
        for (int i = 0; i < 5; i++) {
            x.left(0, 5);
            x.left(1, 5 - i);
            due("call(0), COW 1 in its CELL " + (i + 1), x.call(0), gone[i]);
        }
        x.left(0, 1);
        x.left(1, 0);
        x.order(0);
        due("call(0): HOME is no CELL in which one stands", x.call(0), 1);
    }

    private void follow() {
        cows(4);
        row(0, 0, 1, 2, 3);
        row(0, 1, 4, 1, 5);
        row(0, 2, 6, 4, 7);
        rule("steps 2; follows if cow = called or cow = 1 or cow = 2; balks if cow = 1 and wind = 1");
        due("call(0): 1 comes where 0 was, 2 where 1 was", x.call(0), 4);
        due("of(1, 7)", x.of(1, 7), 1);
        due("of(2, 7)", x.of(2, 7), 4);
        x.left(2, 3);
        x.left(1, 3);
        x.left(0, 3);
        due("call(2): 1 can't go on, for 0 stands there", x.call(2), 0);
        x.wind(1);
        due("call(0): 1 balks, so 2 can't go on", x.call(0), 2);
        x.wind(0);
        x.order(3);
        due("order, of which one is HOME: it does not follow", x.call(2), 1);
        due("of(3, 5)", x.of(3, 5), 0);
    }

    /** home and LEFT are as they are when one's turn comes, in the same CALL. */
    private void askedInTurn() {
        cows(4);
        for (int cow = 0; cow < 4; cow++) {
            row(0, cow, cow * 10, cow * 10 + 1, cow * 10 + 2);
        }
        x.left(1, 1);
        x.order(1);
        rule("follows if cow = 1 or home = 1");
        due("call(3): 0 is asked ahead of 1, 2 behind it", x.call(3), 3);
        due("of(0, 5)", x.of(0, 5), 3);
        due("of(1, 5)", x.of(1, 5), 0);
        due("of(2, 5)", x.of(2, 5), 2);
        x.left(0, 1);
        x.order(0);
        due("call(0), by which two are HOME", x.call(0), 1);
        cows(1);
        row(0, 0, 1, 2, 3, 4, 5);
        rule("steps left - 3");
        due("call(0), asked once of its steps", x.call(0), 2);
        due("call(0), asked again", x.call(0), 0);
    }

    private void homeByOrder() {
        cows(3);
        row(0, 0, 1);
        row(0, 1, 2);
        row(0, 2, 3);
        due("call(0), the ORDER is empty", x.call(0), -3);
        x.order(1);
        x.order(0);
        due("call(0), the second", x.call(0), -3);
        due("call(2), not in it", x.call(2), -3);
        due("call(1), the first", x.call(1), 1);
        due("call(2), not in it", x.call(2), -3);
        due("call(0), the first that is not HOME", x.call(0), 1);
        due("call(2), all of it are HOME", x.call(2), -3);
        x.left(1, 1);
        x.left(0, 1);
        rule("follows if cow < 2");
        due("call(1), and 0 follows, both in the ORDER", x.call(1), 2);
        x.left(1, 1);
        x.left(0, 1);
        due("call(0), and 1 follows, out of the ORDER", x.call(0), -3);
        due("of(0, 5)", x.of(0, 5), 1);
        due("of(1, 5)", x.of(1, 5), 1);
        x.clear();
        x.order(0);
        due("call(0), and 1 follows, not in the ORDER", x.call(0), -3);
        x.order(1);
        due("call(0), and 1 follows", x.call(0), 2);
    }

    private void wolves() {
        cows(2);
        x.put(0, 2, 2);
        row(0, 0, 1, 2, 3, 4, 5);
        row(0, 1, 11, 12, 13);
        x.gap(50);
        x.gap(3);
        due("call(0), into a GAP", x.call(0), -3);
        x.guard(1);
        due("call(0), another GAP is GUARDED", x.call(0), -3);
        x.guard(2);
        due("call(0), into a GUARDED GAP", x.call(0), 2);
        x.guard(0);
        due("call(0), out of a GAP that is not GUARDED any more", x.call(0), 2);
        x.left(0, 4);
        due("call(0), through a GAP", x.call(0), 2);
        x.left(0, 4);
        x.left(1, 2);
        row(0, 1, 3, 9);
        x.left(1, 1);
        due("call(0), nobody in the GAP", x.call(0), 2);
        rule("follows if cow = 0");
        x.left(0, 4);
        row(0, 1, 11, 12, 13);
        due("call(1), and 0 follows into a GAP", x.call(1), -3);
        due("of(1, 5)", x.of(1, 5), 3);
        x.guard(2);
        due("call(1), and 0 follows into a GUARDED GAP", x.call(1), 2);
        x.gap(5);
        x.left(0, 1);
        x.order(0);
        due("call(0): HOME has no wolves", x.call(0), 1);
    }

    /** COWS with WAYS of such lengths, in which nobody is in another's way, all in the ORDER. */
    private void herdWithWays(int... lengths) {
        cows(lengths.length);
        for (int cow = 0; cow < lengths.length; cow++) {
            row(0, cow, from(cow * 9, lengths[cow]));
            x.order(cow);
        }
    }

    private void driveEdges() {
        due("drive(0) without COWS", x.drive(0), 0);
        due("drive(1) without COWS", x.drive(1), 1);
        due("drive(2) without COWS", x.drive(2), 1);
        cows(1);
        row(0, 0, 1);
        due("drive(0), the ORDER is empty", x.drive(0), 0);
        due("drive(1), the ORDER is empty", x.drive(1), 1);
        due("drive(2), the ORDER is empty", x.drive(2), 1);
        due("calls(0), the ORDER is empty", x.calls(0), -1);
        x.order(0);
        due("drive(0)", x.drive(0), 1);
        due("drive(1)", x.drive(1), 1);
        due("drive(2)", x.drive(2), 2);
        due("calls(0)", x.calls(0), 0);
        due("calls(1)", x.calls(1), -1);
        x.gap(1);
        due("drive(0), from a GAP", x.drive(0), 1);
        rule("balks");
        due("drive(0), none", x.drive(0), -1);
        due("drive(1), none", x.drive(1), 0);
        due("drive(2), none", x.drive(2), 1);
        due("calls(0), none", x.calls(0), -1);
        x.left(0, 0);
        due("drive(0), all are HOME", x.drive(0), 0);
        due("drive(1), all are HOME", x.drive(1), 1);
        for (int what : new int[] {MIN, -1, 3, MAX}) {
            due("drive(" + what + ")", x.drive(what), -1);
        }
    }

    private void drive(String when, int fewest, int many, int stands, int... first) {
        due("drive(0), " + when, x.drive(0), fewest);
        due("drive(1), " + when, x.drive(1), many);
        due("drive(2), " + when, x.drive(2), stands);
        for (int i = 0; i < first.length; i++) {
            due("calls(" + i + "), " + when, x.calls(i), first[i]);
        }
        due("calls(" + Math.max(fewest, 0) + "), " + when, x.calls(Math.max(fewest, 0)), -1);
    }

    private void drivesOfCallsThatCanBe() {
        cows(2);
        x.put(0, 2, 3);
        x.put(1, 2, 2);
        row(0, 0, 1, 2);
        row(0, 1, 11, 12, 13);
        x.order(1);
        x.order(0);
        drive("a longer step does not end ahead of HOME", 3, 1, 4, 1, 1, 0);
        x.gap(50);
        x.gap(13);
        drive("into a GAP", -1, 0, 1);
        x.guard(1);
        drive("another one is GUARDED", -1, 0, 1);
        x.guard(2);
        drive("into a GUARDED GAP", 3, 1, 4, 1, 1, 0);
        x.guard(0);
        x.left(1, 2);
        drive("to HOME at once, beside a GAP", 2, 1, 3, 1, 0);
        x.put(1, 2, 1);
        x.left(1, 1);
        drive("out of a GAP", 2, 1, 3, 1, 0);

        cows(2);
        row(0, 0, 1, 2, 3);
        row(0, 1, 11, 12);
        x.order(0);
        x.order(1);
        rule("balks if cow = 1 and home = 0; steps 3 if cow = 1 and home = 1; steps 2 if cow = 0 and home = 1");
        drive("by who is HOME then", 4, 1, 5, 0, 0, 0, 1);
        x.left(1, 0);
        drive("one is HOME already", 2, 1, 3, 0, 0);
        rule("steps 0; steps left if left < 3 and called = cow and cow = 0; steps 1 if left = 3; follows if called = 0");
        x.left(1, 2);
        drive("by who is called, and LEFT then", 2, 1, 3, 0, 0);
    }

    private void dogs() {
        due("dogs() without all", x.dogs(), 0);
        cows(1);
        row(0, 0, 1, 2, 3, 4, 5, 6);
        x.order(0);
        for (int i = 0; i < 5; i++) {
            x.gap(2 + i);
        }
        due("dogs(), all five", x.dogs(), 31);
        x.put(0, 2, 2);
        due("dogs(), two of five", x.dogs(), 10);
        x.put(0, 2, 3);
        due("dogs(), one of five", x.dogs(), 4);
        x.left(0, 3);
        due("dogs(), none of five", x.dogs(), 0);
        rule("balks");
        due("dogs(), no GAPS GUARDED let one be", x.dogs(), -1);
        x.left(0, 0);
        due("dogs(), all are HOME", x.dogs(), 0);
        for (int i = 0; i < 5; i++) {
            cows(1);
            row(0, 0, 1, 2);
            x.order(0);
            for (int j = 0; j < 5; j++) {
                x.gap(j == i ? 2 : 50 + j);
            }
            due("dogs(), GAP " + i + " alone", x.dogs(), 1 << i);
        }
        choice(0, 2);
        choice(0, 3);
        choice(1, 2, 3);
        choice(1, 3, 2);
        choice(4, 3, 5, 2);
        choice(4, 2, 4, 3);
        choice(3, 2, 4, 3, 5);
        choice(3, 3, 5, 4, 2);
        choice(5, 3, 2, 5, 4);
    }

    /** COW 0 goes home by CELLS 2 and 4, if it follows COW 1 at first, or by 3 and 5. */
    private void choice(int want, int... gaps) {
        cows(2);
        row(0, 0, 1, 2, 3, 4, 5);
        row(0, 1, 20, 21, 22, 23);
        rule("steps 1; steps 2 if cow = 0; follows if cow = 0 and left = 5");
        x.order(0);
        for (int cell : gaps) {
            x.gap(cell);
        }
        due("dogs() with so many GAPS: " + gaps.length, x.dogs(), want);
    }

    private void leads() {
        cows(5);
        for (int cow = 0; cow < 5; cow++) {
            x.put(cow, 0, cow == 4 ? 0 : 23);
        }
        row(1, 0, 23, 0, 23, 23, 23, 23, 0, 22, 1, 23, 0, 23);
        x.order(2);
        due("lead(0), twelve NOTES", x.lead(0), 5);
        int[] led = {0, 4, 1, 2, 3};
        for (int i = 0; i < 5; i++) {
            due("who(" + i + ", 0)", x.who(i, 0), led[i]);
        }
        due("who(5, 0)", x.who(5, 0), -1);
        x.put(0, 1, 1);
        due("lead(0), one CRACKED", x.lead(0), 4);
        due("who(0, 0)", x.who(0, 0), 1);
        row(1, 3, 22);
        due("lead(3), nobody has it", x.lead(3), 0);
        due("count(3): the ORDER is empty", x.count(3), 0);
        x.order(1);
        due("lead(2), without NOTES", x.lead(2), 0);
        due("count(3): the ORDER is empty", x.count(3), 0);
        x = new BellHerd();
        due("lead(0) without COWS", x.lead(0), 0);
    }

    private void recasts() {
        x.cow(5, 1, 0, 0);
        int[] notes = {0, 4, 5, 6, 23};
        int[] fewest = {-1, -1, 0, 1, 1};
        for (int i = 0; i < notes.length; i++) {
            row(1, 0, notes[i]);
            due("recast(0, 0) to " + notes[i], x.recast(0, 0), fewest[i]);
            due("recast(0, 1) to " + notes[i], x.recast(0, 1), fewest[i] < 0 ? 0 : 1);
            due("hoof(0, 0) to " + notes[i], x.hoof(0, 0), fewest[i] < 0 ? -1 : 0);
        }
        x.put(0, 1, 1);
        due("recast(0, 0), CRACKED", x.recast(0, 0), -1);
        due("cast(0), CRACKED", x.cast(0), -3);
        cows(5);
        row(1, 0, 9, 9, 9, 9, 9);
        due("recast(0, 0), as many NOTES as COWS", x.recast(0, 0), 4);
        due("recast(0, 1), as many NOTES as COWS", x.recast(0, 1), 120);
        row(1, 0, 9, 9, 9, 9, 9, 9);
        due("recast(0, 0), one NOTE more than COWS", x.recast(0, 0), -1);
        due("recast(0, 1), one NOTE more than COWS", x.recast(0, 1), 0);
        due("hoof(0, 5)", x.hoof(0, 5), -1);
        row(1, 0, from(9, 12));
        due("recast(0, 0), twelve NOTES", x.recast(0, 0), -1);
        due("hoof(0, 11)", x.hoof(0, 11), -1);
        x.put(2, 1, 1);
        row(1, 0, 9, 9, 9, 9);
        due("recast(0, 0), as many NOTES as COWS that are not CRACKED", x.recast(0, 0), 3);
        row(1, 0, 9, 9, 9, 9, 9);
        due("recast(0, 0), one more than these", x.recast(0, 0), -1);
        due("recast(1, 0) without NOTES", x.recast(1, 0), 0);
        due("recast(1, 1) without NOTES", x.recast(1, 1), 1);
        due("cast(1) without NOTES", x.cast(1), 0);
        x = new BellHerd();
        due("recast(0, 0) without all", x.recast(0, 0), 0);
        row(1, 0, 23);
        due("recast(0, 0) without COWS", x.recast(0, 0), -1);
    }

    private void sold() {
        due("sold() without COWS", x.sold(), -1);
        row(1, 0, 5);
        due("sold() without COWS", x.sold(), -1);
        x.cow(5, 1, 0, 0);
        due("sold() of one", x.sold(), 0);
        x.cow(6, 1, 0, 0);
        due("sold() of two", x.sold(), 1);
        row(1, 1, 6);
        row(1, 2, 6);
        due("sold(): two TUNES more than one", x.sold(), 0);
        x.put(1, 1, 1);
        due("sold(): of all COWS, a CRACKED one, too", x.sold(), 1);
        cows(5);
        for (int tune = 0; tune < 4; tune++) {
            row(1, tune, 5 + tune);
        }
        due("sold(): the one whom no TUNE needs", x.sold(), 4);
    }

    private void soldAlike() {
        cows(3);
        due("sold() without TUNES", x.sold(), 0);
        x.put(0, 0, 9);
        x.put(1, 0, 5);
        x.put(2, 0, 5);
        row(1, 0, 6, 9);
        due("sold(): fewer to recast", x.sold(), 1);
        x.put(0, 0, 5);
        due("sold(): alike, the lowest", x.sold(), 0);
        cows(3);
        x.put(0, 0, 3);
        x.put(1, 0, 8);
        x.put(2, 0, 8);
        row(1, 0, 4);
        row(1, 1, 9, 9);
        due("sold(): one that can't be had without COW 0", x.sold(), 1);
        cows(5);
        x.put(0, 0, 1);
        for (int cow = 1; cow < 5; cow++) {
            x.put(cow, 0, 3);
        }
        row(1, 0, 2);
        for (int tune = 1; tune < 4; tune++) {
            row(1, tune, 9, 9, 9, 9);
        }
        due("sold(): one that can't be had is more than all that can be recast", x.sold(), 1);
        soldOf(4, new int[] {0, 1, 6, 0, 8}, new int[][] {{8, 2}, {8, 4, 1, 7}, {3, 7, 5, 7}, {2, 8}});
        soldOf(2, new int[] {0, 0, 7, 1, 1}, new int[][] {{6, 7, 6}, {0, 0, 7, 8, 4, 1}, {0, 7, 6, 7}, {2, 4, 4, 2}});
        soldOf(2, new int[] {0, 1, 7, 1, 0}, new int[][] {{8, 0, 1}, {2, 2, 2, 6}, {7, 5, 4, 2}, {4}});
    }

    /** Herds of which another COW would be sold, if one that can't be had counted 7, 6 or 5 instead of 13. */
    private void soldOf(int want, int[] notes, int[][] tunes) {
        x = new BellHerd();
        for (int note : notes) {
            x.cow(note, 1, 0, 0);
        }
        for (int tune = 0; tune < tunes.length; tune++) {
            row(1, tune, tunes[tune]);
        }
        due("sold(): one that can't be had counts 13", x.sold(), want);
    }

    private void termsFour() {
        sentence("HEARD: a row of NOTES, 24 at most.", () -> {
            due("note(4, -1)", x.note(4, -1), 0);
            for (int value : new int[] {0, 1, 22, 23, 24, 127, 128, 255}) {
                kept(2, value, value <= 23);
            }
            due("23", row(2, 0, from(0, 23)), 23);
            due("24", row(2, 0, from(0, 24)), 24);
            due("lost()", x.lost(), 0);
            due("25", row(2, 0, new int[25]), 24);
            due("lost()", x.lost(), 1);
            due("note(4, 23)", x.note(4, 23), 0);
            due("note(4, 24)", x.note(4, 24), -1);
            due("note(3, -1): no TUNE has it", x.note(3, -1), 0);
            due("one", row(2, 0, 9), 1);
            due("note(4, 1)", x.note(4, 1), -1);
        });
        sentence("the fewest of NOTES put in, left out, wrong, and two neighbours exchanged, one each (no NOTE in two of them)",
                this::slipsEdges);
        sentence("in how many ways.", () -> {
            slips("", "", 0, 1);
            slips("a", "aa", 1, 2);
            slips("aaa", "a", 2, 3);
            slips("ab", "c", 2, 2);
            slips("abc", "def", 3, 1);
            slips("abab", "baba", 2, 3);
            slips(times("a", 24), times("b", 12), 24, 2_704_156);
            slips(times("b", 23), times("b", 12), 11, 1_352_078);
        });
        sentence("lower ones first, of alike ones the lower COW", () -> {
            cows(5);
            for (int i = 0; i < 5; i++) {
                due("who(" + i + ", 1) without", x.who(i, 1), i);
            }
            rule("rank 0 - cow");
            for (int i = 0; i < 5; i++) {
                due("who(" + i + ", 1)", x.who(i, 1), 4 - i);
            }
            rule("rank 0 - cow / 2; rank 1 / 0");
            int[] want = {4, 2, 3, 0, 1};
            for (int i = 0; i < 5; i++) {
                due("who(" + i + ", 1), some alike", x.who(i, 1), want[i]);
            }
            rule("rank 1 if cow < 2; rank 0 - 1 if cow = 4");
            want = new int[] {4, 2, 3, 0, 1};
            for (int i = 0; i < 5; i++) {
                due("who(" + i + ", 1), 0 without", x.who(i, 1), want[i]);
            }
        });
        sentence("UNLAWFUL: how many pairs stand in the ORDER otherwise than in RANKS.", () -> {
            due("unlawful() without COWS", x.unlawful(), 0);
            cows(5);
            due("unlawful(), the ORDER is empty", x.unlawful(), 0);
            rule("rank 0 - cow");
            int[] want = {0, 1, 3, 6, 10};
            for (int i = 0; i < 5; i++) {
                x.order(i);
                due("unlawful()", x.unlawful(), want[i]);
            }
            rule("rank cow");
            due("unlawful(), none", x.unlawful(), 0);
            rule("rank 0");
            due("unlawful(), all alike", x.unlawful(), 0);
        });
        sentence("EARS, 20 at most: how loud 0 .. 9 a NOTE was.", () -> {
            for (int i = 1; i <= 20; i++) {
                due("ear", x.ear(i, i % 10), i);
            }
            due("a 21st", x.ear(0, 0), -5);
            due("count(4)", x.count(4), 20);
            due("deaf()", x.deaf(), 20);
            for (int loud : new int[] {MIN, -1, 0, 9, 10, MAX}) {
                x = new BellHerd();
                due("ear(0, " + loud + ")", x.ear(0, loud), loud == 0 || loud == 9 ? 1 : -1);
            }
            for (int note : new int[] {MIN, -1, 0, 23, 24, MAX}) {
                x = new BellHerd();
                due("ear(" + note + ", 0)", x.ear(note, 0), note == 0 || note == 23 ? 1 : -1);
            }
        });
        sentence("each LEFT 0 .. the length of its WAY is as likely as all EARS of its NOTE", this::likelyEdges);
        sentence("and heard as loud, 0 .. 100 (else the nearest; 50 without)", this::loudEdges);
        sentence("so many ROUNDS (0 .. 200), on paper from LEFT as it is: s is the SEED (0 .. 1,000,000)", this::fogEdges);
        sentence("s becomes (s times 1103 and 12345) modulo 1,000,003, it is s modulo n", this::fogDraws);
        sentence("ROUND by ROUND, COW by COW that is not HOME a DRAW of 3", this::fogOfAll);
        sentence("0 it goes back by a CELL of its WAY, if there is one and nobody stands there; 1 it stays; 2 it goes on by one, "
                + "if nobody stands there, and it would not be HOME by it", this::fogSteps);
        sentence("a byte that can't be (for a WAY: a CELL that is there already too), or for which there is no room, is LOST: "
                + "left out", this::lostEdges);
        sentence("IMAGES 0, 1 keep all but the TAPE, FAULT, LOST, the latest FOG", this::imagesKeep);
        sentence("BACK to one all that it keeps is as it was then (IMAGES stay)", this::imagesStay);
        sentence("BACK to one all that it keeps is as it was then", this::asItWasThen);
    }

    private void slips(String heard, String tune, int fewest, int ways) {
        x = new BellHerd();
        if (!heard.isEmpty()) {
            row(2, 0, heard.chars().map(c -> c - 'a').toArray());
        }
        if (!tune.isEmpty()) {
            row(1, 1, tune.chars().map(c -> c - 'a').toArray());
        }
        due("slips(1, 0) of " + heard + " against " + tune, x.slips(1, 0), fewest);
        due("slips(1, 1) of " + heard + " against " + tune, x.slips(1, 1), ways);
    }

    private void slipsEdges() {
        slips("", "", 0, 1);
        slips("a", "", 1, 1);
        slips("", "a", 1, 1);
        slips("a", "a", 0, 1);
        slips("a", "b", 1, 1);
        slips("ab", "ba", 1, 1);
        slips("abc", "cba", 2, 1);
        slips("ca", "abc", 3, 5);
        slips("bac", "abc", 1, 1);
        slips("acb", "abc", 1, 1);
        slips("aabb", "abab", 1, 1);
        slips(times("a", 24), "", 24, 1);
        slips("", times("a", 12), 12, 1);
        slips(times("ab", 12), times("ba", 6), 12, 6188);
        slips(times("a", 12), times("a", 12), 0, 1);
        slips(times("a", 24), times("a", 12), 12, 2_704_156);
    }

    private void likelyEdges() {
        cows(2);
        due("likely(0, 0), without a WAY", x.likely(0, 0), 1_000_000);
        due("likely(0, 1), without a WAY", x.likely(0, 1), -1);
        row(0, 0, from(1, 9));
        for (int left : new int[] {MIN, -1, 0, 9, 10, MAX}) {
            due("likely(0, " + left + ") without EARS", x.likely(0, left), left == 0 || left == 9 ? 100_000 : -1);
        }
        rule("loud left if heard > 4; loud 100 if left = 9 and heard < 5");
        x.ear(6, 9);
        due("likely(0, 9), another NOTE was heard", x.likely(0, 9), 100_000);
        x.ear(5, 5);
        due("likely(0, 0)", x.likely(0, 0), 0);
        due("likely(0, 1)", x.likely(0, 1), 22_222);
        due("likely(0, 9)", x.likely(0, 9), 200_000);
        x.ear(5, 4);
        due("likely(0, 9), by two EARS", x.likely(0, 9), 333_333);
        rule("loud 0");
        due("likely(0, 9), it can't be at all", x.likely(0, 9), -1);
        due("likely(0, 0), it can't be at all", x.likely(0, 0), -1);
        x.deaf();
        due("likely(0, 9), without EARS again", x.likely(0, 9), 100_000);
        x.put(0, 1, 1);
        due("likely(0, 9), CRACKED", x.likely(0, 9), -1);
        x.put(0, 1, 0);
        x.left(0, 0);
        due("likely(0, 9), LEFT as it is does not matter", x.likely(0, 9), 100_000);
    }

    /** With LEFT 0 or 1: what "loud" tells of LEFT 1 against 100 of LEFT 0. */
    private void loudEdges() {
        String[] sums = {"0 - 1000", "0 - 1", "0", "1", "50", "99", "100", "101", "1000 * 1000"};
        int[] worth = {0, 0, 0, 1, 50, 99, 100, 100, 100};
        for (int i = 0; i < sums.length; i++) {
            loud("loud 100; loud " + sums[i] + " if left = 1", 1, worth[i], 100);
            loud("loud 100; loud " + sums[i] + " if left = 1", 20, worth[i], 100);
        }
        loud("loud 100 if left = 0", 1, 50, 100);
        loud("loud 100 if left = 0; loud 1 / 0", 1, 50, 100);
        loud("rank 1", 1, 50, 50);
        loud("loud 99; loud 100 if left = 1", 20, 100, 99);
        loud("loud 1; loud 100 if left = 1", 20, 100, 1);
        loud("loud 0; loud 1 if left = 1", 20, 1, 0);
    }

    private void loud(String text, int ears, int one, int none) {
        cows(1);
        row(0, 0, 1);
        rule(text);
        for (int i = 0; i < ears; i++) {
            x.ear(5, 3);
        }
        BigInteger of1 = BigInteger.valueOf(one).pow(ears);
        BigInteger of0 = BigInteger.valueOf(none).pow(ears);
        BigInteger million = BigInteger.valueOf(1_000_000);
        due("likely(0, 1) by " + ears + " EARS and " + text, x.likely(0, 1),
                of1.multiply(million).divide(of0.add(of1)).intValue());
        due("likely(0, 0) by " + ears + " EARS and " + text, x.likely(0, 0),
                of0.multiply(million).divide(of0.add(of1)).intValue());
    }

    private void fogEdges() {
        cows(1);
        row(0, 0, from(1, 9));
        for (int seed : new int[] {MIN, -1, 0, 1_000_000, 1_000_001, MAX}) {
            due("fog(" + seed + ", 0)", x.fog(seed, 0), seed == 0 || seed == 1_000_000 ? 0 : -1);
        }
        for (int rounds : new int[] {MIN, -1, 201, MAX}) {
            due("fog(0, " + rounds + ")", x.fog(0, rounds), -1);
        }
        due("drawn(0) behind no ROUND", x.drawn(0), 9);
        for (int seed : new int[] {0, 999_999, 1_000_000}) {
            for (int rounds : new int[] {1, 2, 199, 200}) {
                strays(seed, rounds, 9);
            }
        }
        x.left(0, 4);
        strays(5, 3, 4);
        due("of(0, 5): on paper alone", x.of(0, 5), 4);
        strays(5, 3, 4);
    }

    /** One COW alone on a WAY of nine. */
    private void strays(int seed, int rounds, int from) {
        long s = seed;
        int left = from;
        int gone = 0;
        for (int round = 0; round < rounds; round++) {
            s = (s * 1103 + 12345) % 1_000_003;
            if (s % 3 == 0 && left < 9) {
                left++;
                gone++;
            } else if (s % 3 == 2 && left > 1) {
                left--;
                gone++;
            }
        }
        due("fog(" + seed + ", " + rounds + ")", x.fog(seed, rounds), gone);
        due("drawn(0) behind fog(" + seed + ", " + rounds + ")", x.drawn(0), left);
    }

    /** By hand: 0 draws 12345, 12345 draws 13628880 modulo 1000003, which is 628841; 1000000 draws 9036. */
    private void fogDraws() {
        cows(2);
        row(0, 0, 1, 2, 3);
        x.left(0, 2);
        due("fog(0, 1): 12345 modulo 3 is 0, back", x.fog(0, 1), 1);
        due("drawn(0)", x.drawn(0), 3);
        due("fog(0, 2): 628841 modulo 3 is 2, on", x.fog(0, 2), 2);
        due("drawn(0)", x.drawn(0), 2);
        due("fog(1000000, 1): 9036 modulo 3 is 0, back", x.fog(1_000_000, 1), 1);
        due("drawn(0)", x.drawn(0), 3);
        due("fog(1, 1): 13448 modulo 3 is 2, on", x.fog(1, 1), 1);
        due("drawn(0)", x.drawn(0), 1);
        due("fog(3, 1): 15654 modulo 3 is 0", x.fog(3, 1), 1);
        due("fog(2, 1): 14551 modulo 3 is 1, it stays", x.fog(2, 1), 0);
        due("drawn(0)", x.drawn(0), 2);
    }

    private void fogSteps() {
        cows(2);
        row(0, 0, 1, 2, 3);
        due("fog(0, 1), back from the first CELL", x.fog(0, 1), 0);
        due("drawn(0)", x.drawn(0), 3);
        x.left(0, 1);
        due("fog(1, 1), on from the last CELL", x.fog(1, 1), 0);
        due("drawn(0)", x.drawn(0), 1);
        x.left(0, 0);
        due("fog(1, 200), all are HOME: no DRAW", x.fog(1, 200), 0);
        due("drawn(0)", x.drawn(0), 0);
        // COW 1 draws 12345 * 1103 + 12345 behind COW 0 that draws 12345, but 12345 if COW 0 is HOME
        row(0, 1, 8, 9);
        x.left(1, 1);
        due("fog(0, 1): COW 0 is HOME, so COW 1 has the first DRAW", x.fog(0, 1), 1);
        due("drawn(1)", x.drawn(1), 2);
        x.left(0, 2);
        x.left(1, 2);
        due("fog(0, 1): COW 0 goes back, COW 1 on", x.fog(0, 1), 2);
        due("drawn(0)", x.drawn(0), 3);
        due("drawn(1)", x.drawn(1), 1);
        row(0, 1, 1, 9);
        due("fog(0, 1): back where COW 1 stands; COW 1 on", x.fog(0, 1), 1);
        due("drawn(0)", x.drawn(0), 2);
        due("drawn(1)", x.drawn(1), 1);
        row(0, 1, 8, 1);
        due("fog(0, 1): COW 1 on, where COW 0 came by going back", x.fog(0, 1), 1);
        due("drawn(0)", x.drawn(0), 3);
        due("drawn(1)", x.drawn(1), 2);
        row(0, 1, 8, 2);
        due("fog(0, 1): COW 1 on, where COW 0 went off", x.fog(0, 1), 2);
        due("drawn(1)", x.drawn(1), 1);
    }

    /** Five at once, on WAYS of their own, and fewer behind BACK. */
    private void fogOfAll() {
        herdWithWays(9, 9, 9, 9, 9);
        for (int rounds : new int[] {1, 2, 200}) {
            fogOf(rounds, 9, 9, 9, 9, 9);
        }
        cows(1);
        row(0, 0, from(1, 9));
        x.left(0, 5);
        x.image(0);
        for (int cow = 1; cow < 5; cow++) {
            x.cow(1, 1, 1, 1);
            row(0, cow, from(cow * 9 + 1, 9));
            x.left(cow, 5);
        }
        fogOf(7, 5, 5, 5, 5, 5);
        x.back(0);
        fogOf(7, 5);
    }

    private void fogOf(int rounds, int... left) {
        long s = 4;
        int gone = 0;
        for (int i = 0; i < rounds * left.length; i++) {
            int cow = i % left.length;
            s = (s * 1103 + 12345) % 1_000_003;
            if (s % 3 == 0 && left[cow] < 9) {
                left[cow]++;
                gone++;
            } else if (s % 3 == 2 && left[cow] > 1) {
                left[cow]--;
                gone++;
            }
        }
        due("fog(4, " + rounds + ")", x.fog(4, rounds), gone);
        for (int cow = 0; cow < left.length; cow++) {
            due("drawn(" + cow + ")", x.drawn(cow), left[cow]);
        }
    }

    private void lostEdges() {
        due("lost() ahead of any", x.lost(), 0);
        cows(1);
        due("nothing LOST", row(0, 0, 1), 1);
        due("lost()", x.lost(), 0);
        due("all LOST", row(0, 0, 64, 65, 255), 0);
        due("lost()", x.lost(), 3);
        due("of(0, 5)", x.of(0, 5), 0);
        due("of(0, 6)", x.of(0, 6), 0);
        due("all LOST", row(1, 0, 24, 255), 0);
        due("lost()", x.lost(), 2);
        due("note(0, -1)", x.note(0, -1), 0);
        due("all LOST", row(2, 0, 24), 0);
        due("lost()", x.lost(), 1);
        due("a NOTE twice is not LOST", row(1, 0, 7, 7), 2);
        due("lost()", x.lost(), 0);
        due("400 bytes for a WAY", row(0, 0, new int[400]), 1);
        due("lost()", x.lost(), 399);
        due("400 bytes for a TUNE", row(1, 0, new int[400]), 12);
        due("lost()", x.lost(), 388);
        due("row of an empty TAPE", x.row(1, 0), -6);
        due("lost() of the latest that was not REFUSED", x.lost(), 388);
        due("row(3, 0)", x.row(3, 0), -1);
        due("lost() of the latest that was not REFUSED", x.lost(), 388);
    }

    private void imagesKeep() {
        cows(2);
        row(0, 0, 1, 2, 3, 4);
        due("image(0)", x.image(0), 0);
        x.left(0, 2);
        x.fog(0, 0);
        row(1, 0, 99, 98, 97, 1);
        due("a LAW that can't be", law("balks;"), -6);
        x.feed(1, 2, 3, 4, 5);
        due("back(0)", x.back(0), 0);
        due("lost()", x.lost(), 3);
        due("fault()", x.fault(), 6);
        due("count(6)", x.count(6), 20);
        due("drawn(0)", x.drawn(0), 2);
        due("of(0, 5)", x.of(0, 5), 4);
        due("note(0, -1)", x.note(0, -1), 0);
        due("count(11)", x.count(11), 1);
        for (int k : new int[] {MIN, -1, 2, MAX}) {
            due("image(" + k + ")", x.image(k), -1);
            due("back(" + k + ")", x.back(k), -1);
        }
        due("back(1), not kept", x.back(1), -2);
        due("image(1)", x.image(1), 0);
        due("back(1)", x.back(1), 0);
        due("count(7)", x.count(7), 8);
        due("count(8)", x.count(8), 1);
    }

    private void asItWasThen() {
        x.image(0);
        fill(0);
        x.image(1);
        asFilled(0);
        x.back(0);
        due("count(0)", x.count(0), 0);
        due("count(2)", x.count(2), 0);
        due("wind(0)", x.wind(0), 0);
        fill(1);
        asFilled(1);
        x.image(0);
        x.back(1);
        asFilled(0);
        x.back(0);
        asFilled(1);
        x.back(1);
        asFilled(0);
    }

    /** Something of all that an IMAGE keeps, in two ways. */
    private void fill(int by) {
        for (int cow = 0; cow < 3; cow++) {
            x.cow(4 + cow + by, 1 + by, 2 + by, 3 + by);
        }
        x.put(2, 1, 1 - by);
        row(0, 0, 10 + by, 11 + by, 12 + by);
        x.left(0, 2 - by);
        for (int tune = 0; tune < 4; tune++) {
            row(1, tune, tune + by, 20);
        }
        row(2, 0, 15 + by, 14 + by);
        x.wind(1 + by);
        x.gap(30 + by);
        x.gap(40 + by);
        x.guard(1 + by);
        rule("rank 0; loud heard + by".replace("by", String.valueOf(by)) + "; loud 1 if left = 0");
        law("balks");
        x.order(1 + by);
        x.order(0);
        x.ear(4 + by, 3 + by);
        x.ear(4 + by, 7 - by);
    }

    private void asFilled(int by) {
        for (int cow = 0; cow < 3; cow++) {
            int[] of = {4 + cow + by, cow == 2 ? 1 - by : 0, 1 + by, 2 + by, 3 + by};
            for (int what = 0; what < 5; what++) {
                due("of(" + cow + ", " + what + ")", x.of(cow, what), of[what]);
            }
        }
        for (int i = 0; i < 3; i++) {
            due("cell(0, " + i + ")", x.cell(0, i), 10 + i + by);
        }
        due("of(0, 5)", x.of(0, 5), 2 - by);
        for (int tune = 0; tune < 4; tune++) {
            due("note(" + tune + ", 0)", x.note(tune, 0), tune + by);
        }
        due("note(4, 1)", x.note(4, 1), 14 + by);
        due("wind", x.wind(1 + by), 1 + by);
        due("gap(30) or gap(31)", x.gap(30 + by), -3);
        due("gap(40) or gap(41)", x.gap(40 + by), -3);
        due("guard", x.guard(1 + by), 1 + by);
        due("count(1)", x.count(1), 2);
        due("count(12)", x.count(12), 0);
        due("who(0, 0)", x.who(0, 0), 1 + by);
        due("who(1, 0)", x.who(1, 0), 0);
        int heard = (3 + by + by) * (7 - by + by);
        due("likely(0, 0)", x.likely(0, 0), 1_000_000 / (3 * heard + 1));
    }

    private void imagesStay() {
        due("image(0) of nothing", x.image(0), 0);
        x.cow(1, 1, 1, 1);
        due("image(1)", x.image(1), 0);
        x.cow(2, 2, 2, 2);
        due("back(0)", x.back(0), 0);
        due("count(0)", x.count(0), 0);
        due("of(0, 0)", x.of(0, 0), -1);
        x.cow(9, 1, 1, 1);
        due("back(1)", x.back(1), 0);
        due("count(0)", x.count(0), 1);
        due("of(0, 0)", x.of(0, 0), 1);
        x.put(0, 0, 7);
        due("back(1) again", x.back(1), 0);
        due("of(0, 0)", x.of(0, 0), 1);
        x.put(0, 0, 8);
        due("image(1) anew", x.image(1), 0);
        x.put(0, 0, 9);
        due("back(1)", x.back(1), 0);
        due("of(0, 0)", x.of(0, 0), 8);
        due("back(0)", x.back(0), 0);
        due("count(0)", x.count(0), 0);
        for (int i = 0; i < 6; i++) {
            law("rank " + i);
        }
        due("count(1)", x.count(1), 6);
        due("back(0)", x.back(0), 0);
        due("there is room for LAWS again", law("balks"), 0);
    }

    private void promisesOfCows() {
        sentence("`BellHerd()`: No COWS, TUNES, LAWS.", () -> {
            for (int what = -1; what <= 13; what++) {
                due("count(" + what + ")", x.count(what), what < 0 || what > 11 ? -1 : 0);
            }
            for (int which = 0; which <= 4; which++) {
                due("note(" + which + ", -1)", x.note(which, -1), 0);
                due("note(" + which + ", 0)", x.note(which, 0), -1);
            }
            due("status()", x.status(), 0);
            due("lost()", x.lost(), 0);
            due("fault()", x.fault(), -1);
            due("drawn(0)", x.drawn(0), -1);
            due("clear()", x.clear(), 0);
            due("deaf()", x.deaf(), 0);
            due("hymn()", x.hymn(), -1);
            due("sold()", x.sold(), -1);
            due("unlawful()", x.unlawful(), 0);
            due("calls(0)", x.calls(0), -1);
            due("back(0)", x.back(0), -2);
            due("back(1)", x.back(1), -2);
        });
        sentence("A COW without a WAY (HOME): its number. -1; -5.", () -> {
            cows(4);
            due("a fifth with a wrong number", x.cow(24, 1, 0, 0), -1);
            due("a fifth", x.cow(0, 1, 0, 0), 4);
            due("of(4, 5)", x.of(4, 5), 0);
            due("of(4, 6)", x.of(4, 6), 0);
            due("of(4, 7)", x.of(4, 7), -1);
            due("a sixth", x.cow(0, 1, 0, 0), -5);
            due("a sixth with a wrong number: -1 ahead of -5", x.cow(24, 1, 0, 0), -1);
            cows(1);
            x.image(0);
            x.cow(1, 1, 1, 1);
            x.put(1, 1, 1);
            row(0, 1, 1, 2);
            x.back(0);
            due("a second anew", x.cow(2, 2, 2, 2), 1);
            due("of(1, 1): not CRACKED", x.of(1, 1), 0);
            due("of(1, 6): without a WAY", x.of(1, 6), 0);
            due("of(1, 5): HOME", x.of(1, 5), 0);
        });
        sentence("-1 (not 0 .. the length of its WAY); -2; -3 another one stands there. The first of these: -2 ahead of -1.",
                () -> {
                    due("left(0, 0) without COWS", x.left(0, 0), -2);
                    due("left(0, -1) without COWS", x.left(0, -1), -2);
                    cows(2);
                    row(0, 0, 1, 2);
                    row(0, 1, 3, 1);
                    for (int left : new int[] {MIN, -1, 3, MAX}) {
                        due("left(1, " + left + ")", x.left(1, left), -1);
                        due("left(2, " + left + ")", x.left(2, left), -2);
                        due("left(-1, " + left + ")", x.left(-1, left), -2);
                    }
                    due("left(1, 1)", x.left(1, 1), -3);
                    due("of(1, 5)", x.of(1, 5), 2);
                });
        sentence("5 LEFT, 6 how long its WAY is, 7 the CELL it stands in (NONE: HOME). NONE.", () -> {
            cows(1);
            row(0, 0, 0);
            due("of(0, 7) in CELL 0", x.of(0, 7), 0);
            x.left(0, 0);
            due("of(0, 7) at HOME", x.of(0, 7), -1);
            for (int what : new int[] {MIN, -1, 8, MAX}) {
                due("of(0, " + what + ")", x.of(0, what), -1);
            }
            for (int cow : new int[] {MIN, -1, 1, 5, MAX}) {
                for (int what = 0; what < 8; what++) {
                    due("of(" + cow + ", " + what + ")", x.of(cow, what), -1);
                }
            }
        });
        sentence("The i-th CELL of the WAY of a COW. NONE.", () -> {
            cows(2);
            row(0, 0, from(50, 9));
            row(0, 1, 30);
            for (int i = 0; i < 9; i++) {
                due("cell(0, " + i + ")", x.cell(0, i), 50 + i);
            }
            for (int i : new int[] {MIN, -1, 9, MAX}) {
                due("cell(0, " + i + ")", x.cell(0, i), -1);
            }
            due("cell(1, 0)", x.cell(1, 0), 30);
            due("cell(1, 1)", x.cell(1, 1), -1);
            for (int cow : new int[] {MIN, -1, 2, MAX}) {
                due("cell(" + cow + ", 0)", x.cell(cow, 0), -1);
            }
        });
        sentence("A GAP: how many there are. -1; -3 the CELL is one; -5.", () -> {
            due("gap(0)", x.gap(0), 1);
            due("gap(0) again", x.gap(0), -3);
            due("gap(64)", x.gap(64), -1);
            for (int i = 2; i <= 5; i++) {
                due("gap", x.gap(i), i);
            }
            due("full, and it is one", x.gap(5), -3);
            due("full, and it can't be", x.gap(-1), -1);
            due("full", x.gap(1), -5);
        });
    }

    private void promisesOfTheTape() {
        sentence("Twenty bytes come behind the TAPE, four of each number, the highest first: how many it has.", () -> {
            due("feed", x.feed(0x17000102, 0x03040506, 0x0708090A, 0x0B0C0D0E, 0x0F101112), 20);
            due("row(2, 0)", x.row(2, 0), 20);
            due("note(4, 0)", x.note(4, 0), 23);
            for (int i = 1; i < 20; i++) {
                due("note(4, " + i + ")", x.note(4, i), i - 1);
            }
            due("feed", x.feed(-1, 0x80808080, 0x00FF00FF, MIN, MAX), 20);
            due("row(2, 0)", x.row(2, 0), 5);
            due("lost()", x.lost(), 15);
        });
        sentence("NONE, if there would be more than 400.", () -> {
            for (int i = 1; i <= 20; i++) {
                due("feed", x.feed(0, 0, 0, 0, 0), 20 * i);
            }
            for (int bytes : new int[] {400, 399, 381}) {
                due("end(" + bytes + ")", x.end(bytes), bytes);
                due("feed behind " + bytes, x.feed(0, 0, 0, 0, 0), -1);
                due("count(6)", x.count(6), bytes);
            }
            due("end(380)", x.end(380), 380);
            due("feed behind 380", x.feed(0, 0, 0, 0, 0), 400);
        });
        sentence("NONE, if it has not so many, or n is below 0.", () -> {
            for (int n : new int[] {MIN, -1, 1, MAX}) {
                due("end(" + n + ") of an empty TAPE", x.end(n), -1);
            }
            due("end(0) of an empty TAPE", x.end(0), 0);
            x.feed(0x01020304, 0, 0, 0, 0);
            for (int n : new int[] {MIN, -1, 21, MAX}) {
                due("end(" + n + ")", x.end(n), -1);
                due("count(6)", x.count(6), 20);
            }
            for (int n : new int[] {20, 19, 4, 4}) {
                due("end(" + n + ")", x.end(n), n);
                due("count(6)", x.count(6), n);
            }
            due("end(5), which were there once", x.end(5), -1);
            due("row(2, 0): the first alone", x.row(2, 0), 4);
            due("note(4, 3)", x.note(4, 3), 4);
        });
        sentence("A ROW, the TAPE is empty then (not if -1, -2)", () -> {
            cows(1);
            for (int what = 0; what < 3; what++) {
                due("row(" + what + ", 0)", row(what, 0, 5), 1);
                due("count(6)", x.count(6), 0);
            }
            tape("abc");
            int[][] wrong = {{-1, 0}, {3, 0}, {1, -1}, {1, 4}, {2, -1}, {2, 1}, {0, -1}, {0, 1}, {0, 5}, {MAX, MIN}};
            for (int[] w : wrong) {
                due("row(" + w[0] + ", " + w[1] + ")", x.row(w[0], w[1]), w[0] == 0 ? -2 : -1);
                due("count(6)", x.count(6), 3);
            }
        });
        sentence("becomes the WAY of a COW (what 0, of: the COW; it stands at its beginning then)", () -> {
            cows(2);
            due("row(0, 0)", row(0, 0, 6, 7), 2);
            due("of(0, 7)", x.of(0, 7), 6);
            x.left(0, 1);
            due("row(0, 0)", row(0, 0, 7, 6), 2);
            due("of(0, 7), where it stood itself", x.of(0, 7), 7);
            due("row(0, 1), on the WAY of COW 0, but not where it stands", row(0, 1, 6, 7), 2);
            due("of(1, 7)", x.of(1, 7), 6);
        });
        sentence("-3 another COW stands at its beginning; -6 the TAPE is empty. (-3: the TAPE is empty then, all stays.)", () -> {
            cows(3);
            row(0, 0, 6, 7);
            row(0, 1, 8, 9);
            for (int[] begin : new int[][] {{6}, {6, 7}, {64, 6}, {255, 200, 6, 1}}) {
                due("row(0, 1)", row(0, 1, begin), -3);
                due("count(6)", x.count(6), 0);
                due("of(1, 6)", x.of(1, 6), 2);
                due("of(1, 7)", x.of(1, 7), 8);
                due("row(0, 2)", row(0, 2, begin), -3);
                due("of(2, 6)", x.of(2, 6), 0);
            }
            due("row(0, 1), begun elsewhere", row(0, 1, 1, 6), 2);
            x.left(0, 0);
            due("row(0, 1), nobody there any more", row(0, 1, 6, 7), 2);
            due("row(0, 0) of an empty TAPE", x.row(0, 0), -6);
            due("row(0, 3) of an empty TAPE", x.row(0, 3), -2);
            due("row(1, 0) of an empty TAPE", x.row(1, 0), -6);
            due("row(1, 4) of an empty TAPE", x.row(1, 4), -1);
            due("row(2, 0) of an empty TAPE", x.row(2, 0), -6);
            due("of(0, 6)", x.of(0, 6), 2);
        });
        sentence("How many were LOST in the latest row() that was not REFUSED (0 ahead of any).", () -> {
            due("lost()", x.lost(), 0);
            due("row of an empty TAPE", x.row(1, 0), -6);
            due("lost()", x.lost(), 0);
            row(1, 0, 24, 1, 25);
            due("lost()", x.lost(), 2);
            row(0, 0, 64);
            due("lost(), -2", x.lost(), 2);
            cows(2);
            row(0, 0, 1);
            row(0, 1, 99, 98, 1);
            due("lost(), -3", x.lost(), 0);
        });
        sentence("The i-th NOTE of a TUNE (which 0 .. 3), of HEARD (4); how many there are (i NONE). NONE.", () -> {
            row(1, 0, 9);
            row(1, 3, 0, 23);
            row(2, 0, 22, 21, 20);
            due("note(0, -1)", x.note(0, -1), 1);
            due("note(3, -1)", x.note(3, -1), 2);
            due("note(4, -1)", x.note(4, -1), 3);
            due("note(3, 0)", x.note(3, 0), 0);
            due("note(3, 1)", x.note(3, 1), 23);
            due("note(4, 2)", x.note(4, 2), 20);
            for (int i : new int[] {MIN, -2, 3, 12, 24, MAX}) {
                due("note(3, " + i + ")", x.note(3, i), -1);
                due("note(4, " + i + ")", x.note(4, i), -1);
            }
            for (int which : new int[] {MIN, -1, 5, MAX}) {
                due("note(" + which + ", -1)", x.note(which, -1), -1);
                due("note(" + which + ", 0)", x.note(which, 0), -1);
            }
        });
    }

    private void promisesOfLaws() {
        sentence("-5 (ahead of reading it; the TAPE is empty then, too); -6 (blanks alone: FAULT at the end).", () -> {
            for (int blanks : new int[] {0, 1, 20, 21, 399, 400}) {
                faultOf(times(" ", blanks), blanks);
            }
            x = new BellHerd();
            law("no");
            for (int i = 0; i < 6; i++) {
                law("balks");
            }
            due("fault()", x.fault(), -1);
            for (String text : new String[] {"balks", "balks no", "", " "}) {
                due("law() of " + text, law(text), -5);
                due("count(6)", x.count(6), 0);
                due("fault(): not read", x.fault(), -1);
            }
            due("count(10)", x.count(10), 4);
            due("count(11)", x.count(11), 1);
        });
        sentence("FAULT of the latest law() that read a TEXT: its place; NONE without.", () -> {
            due("fault() ahead of any", x.fault(), -1);
            due("law()", law(" no"), -6);
            due("fault()", x.fault(), 1);
            due("law()", law("balks"), 0);
            due("fault()", x.fault(), -1);
            due("law()", law("balks no"), -6);
            due("fault()", x.fault(), 6);
            due("row()", row(1, 0, 1), 1);
            due("fault() behind others", x.fault(), 6);
        });
        sentence("A LAW is in FORCE (NONE: none): which was. -2.", () -> {
            due("force(-1)", x.force(-1), -1);
            due("force(0) without LAWS", x.force(0), -2);
            law("balks");
            law("balks");
            due("force(1)", x.force(1), -1);
            for (int law : new int[] {MIN, -2, 2, 6, MAX}) {
                due("force(" + law + ")", x.force(law), -2);
                due("count(12)", x.count(12), 1);
            }
            due("force(0)", x.force(0), 1);
            due("force(0)", x.force(0), 0);
            due("force(-1)", x.force(-1), 0);
            due("status() though it answered -1", x.force(-1) + x.status(), -1);
        });
        sentence("A COW comes to the ORDER: how many it has. -2; -3 it is in it.", () -> {
            due("order(0) without COWS", x.order(0), -2);
            cows(5);
            for (int i = 0; i < 5; i++) {
                due("order", x.order(i), i + 1);
            }
            for (int i = 0; i < 5; i++) {
                due("order", x.order(i), -3);
            }
            for (int cow : new int[] {MIN, -1, 5, MAX}) {
                due("order(" + cow + ")", x.order(cow), -2);
            }
            due("count(3)", x.count(3), 5);
        });
        sentence("The ORDER is empty then: how many it had.", () -> {
            due("clear() of none", x.clear(), 0);
            cows(5);
            for (int i = 0; i < 5; i++) {
                x.order(i);
            }
            due("clear() of all", x.clear(), 5);
            due("clear() of none", x.clear(), 0);
            due("order(4)", x.order(4), 1);
            due("who(0, 0)", x.who(0, 0), 4);
            due("who(1, 0)", x.who(1, 0), -1);
        });
        sentence("The i-th COW of the ORDER (what 0), of RANKS (1). NONE.", () -> {
            due("who(0, 0) without COWS", x.who(0, 0), -1);
            due("who(0, 1) without COWS", x.who(0, 1), -1);
            cows(5);
            for (int i = 0; i < 5; i++) {
                x.order(4 - i);
            }
            due("who(4, 0)", x.who(4, 0), 0);
            due("who(4, 1)", x.who(4, 1), 4);
            for (int i : new int[] {MIN, -1, 5, MAX}) {
                due("who(" + i + ", 0)", x.who(i, 0), -1);
                due("who(" + i + ", 1)", x.who(i, 1), -1);
            }
            for (int what : new int[] {MIN, -1, 2, MAX}) {
                due("who(0, " + what + ")", x.who(0, what), -1);
            }
        });
    }

    private void promisesOfCalls() {
        sentence("A CALL: how many CELLS all went together. -2; -3 it is HOME, it can't be called.", () -> {
            due("call(0) without COWS", x.call(0), -2);
            cows(5);
            for (int cow : new int[] {MIN, -1, 5, MAX}) {
                due("call(" + cow + ")", x.call(cow), -2);
            }
            for (int cow = 0; cow < 5; cow++) {
                due("call(" + cow + ") at HOME", x.call(cow), -3);
                row(0, cow, from(cow * 9, 9));
            }
            rule("steps 9; follows");
            due("call(4): three, and one of each other", x.call(4), 7);
            due("count(8)", x.count(8), 4);
            due("count(9)", x.count(9), 5);
        });
        sentence("which is not made. NONE (it can't be called, too).", () -> {
            cows(2);
            row(0, 0, 1, 2);
            due("would(0, 0)", x.would(0, 0), 1);
            due("would(0, 1), which is HOME", x.would(0, 1), 0);
            due("would(1, 0): COW 1 is HOME", x.would(1, 0), -1);
            due("of(0, 5)", x.of(0, 5), 2);
            for (int cow : new int[] {MIN, -1, 2, MAX}) {
                due("would(" + cow + ", 0)", x.would(cow, 0), -1);
                due("would(0, " + cow + ")", x.would(0, cow), -1);
            }
            x.left(0, 1);
            due("would(0, 0): HOME out of the ORDER", x.would(0, 0), -1);
            x.order(0);
            due("would(0, 0)", x.would(0, 0), 0);
            x.left(0, 2);
            x.gap(2);
            due("would(0, 0): into a GAP", x.would(0, 0), -1);
            x.guard(1);
            due("would(0, 0): into a GUARDED GAP", x.would(0, 0), 1);
            due("count(9): not REFUSED", x.count(9), 0);
        });
        sentence("how many there are (1; 1,000,000,000 at most)", () -> {
            herdWithWays(7, 3, 1, 5, 6);
            due("drive(1)", x.drive(1), 999_949_860);
            due("drive(0)", x.drive(0), 22);
            herdWithWays(6, 5, 3, 5, 2);
            due("drive(1), which would be 1,002,456,000", x.drive(1), 1_000_000_000);
            due("drive(0)", x.drive(0), 21);
            herdWithWays(9, 9, 9, 9, 9);
            due("drive(1)", x.drive(1), 1_000_000_000);
            due("drive(0)", x.drive(0), 45);
            due("calls(44)", x.calls(44), 4);
            due("calls(45)", x.calls(45), -1);
        });
        sentence("of how many stands one can come to at all (2; that now counted)", () -> {
            due("drive(2) without COWS", x.drive(2), 1);
            cows(2);
            due("drive(2), all are HOME", x.drive(2), 1);
            row(0, 0, 1, 2);
            due("drive(2), one CALL", x.drive(2), 2);
            row(0, 1, 3, 4);
            due("drive(2)", x.drive(2), 4);
            x.order(0);
            due("drive(2), COW 0 may come HOME", x.drive(2), 6);
            x.left(0, 1);
            due("drive(2), LEFT as it is", x.drive(2), 4);
            herdWithWays(9, 9, 9, 9, 9);
            due("drive(2)", x.drive(2), 59_049 + 6_561 + 729 + 81 + 9 + 1);
        });
        sentence("DOGS, as bits; NONE: no GAPS GUARDED let one be.", () -> {
            cows(2);
            row(0, 0, 1, 2);
            row(0, 1, 2);
            x.order(0);
            due("dogs(), COW 1 stands in the way", x.dogs(), -1);
            x.gap(1);
            due("dogs(), with a GAP", x.dogs(), -1);
            x.order(1);
            due("dogs(), the way is never free", x.dogs(), -1);
            x.clear();
            x.order(1);
            due("dogs(): COW 0 stays in the GAP", x.dogs(), 1);
        });
    }

    private void promisesOfTunes() {
        sentence("A TUNE LEADS: how many are led. -1.", () -> {
            cows(1);
            for (int tune : new int[] {MIN, -1, 0, 3, 4, MAX}) {
                due("lead(" + tune + ")", x.lead(tune), tune == 0 || tune == 3 ? 0 : -1);
            }
        });
        sentence("Whether a TUNE can be RUNG: 1 (without NOTES, too), 0. NONE.", () -> {
            for (int tune : new int[] {MIN, -1, 0, 3, 4, MAX}) {
                due("rung(" + tune + ")", x.rung(tune), tune == 0 || tune == 3 ? 1 : -1);
            }
            row(1, 3, 5);
            due("rung(3) without COWS", x.rung(3), 0);
            x.cow(4, 1, 0, 0);
            due("rung(3), a lower one", x.rung(3), 0);
            x.put(0, 0, 6);
            due("rung(3), a higher one", x.rung(3), 0);
            x.put(0, 0, 5);
            due("rung(3)", x.rung(3), 1);
        });
        sentence("in how many ways (1; 0). NONE (it can't be: for 0).", () -> {
            for (int tune : new int[] {MIN, -1, 0, 3, 4, MAX}) {
                boolean fine = tune == 0 || tune == 3;
                due("recast(" + tune + ", 0)", x.recast(tune, 0), fine ? 0 : -1);
                due("recast(" + tune + ", 1)", x.recast(tune, 1), fine ? 1 : -1);
            }
            for (int what : new int[] {MIN, -1, 2, MAX}) {
                due("recast(0, " + what + ")", x.recast(0, what), -1);
            }
            row(1, 0, 5);
            due("recast(0, 0), it can't be", x.recast(0, 0), -1);
            due("recast(0, 1), it can't be", x.recast(0, 1), 0);
        });
        sentence("The COW that gets the i-th NOTE of a TUNE in the FIRST. NONE.", () -> {
            cows(5);
            row(1, 3, 5, 6, 7, 8, 9);
            for (int i = 0; i < 5; i++) {
                due("hoof(3, " + i + ")", x.hoof(3, i), i);
            }
            for (int i : new int[] {MIN, -1, 5, MAX}) {
                due("hoof(3, " + i + ")", x.hoof(3, i), -1);
            }
            for (int tune : new int[] {MIN, -1, 0, 4, MAX}) {
                due("hoof(" + tune + ", 0)", x.hoof(tune, 0), -1);
            }
        });
        sentence("All bells are recast as in the FIRST: how many. -1; -3 it can't be.", () -> {
            for (int tune : new int[] {MIN, -1, 4, MAX}) {
                due("cast(" + tune + ")", x.cast(tune), -1);
            }
            row(1, 0, 23, 23, 23, 23, 23);
            due("cast(0) without COWS", x.cast(0), -3);
            for (int cow = 0; cow < 5; cow++) {
                x.cow(cow == 2 ? 23 : 0, 1, 0, 0);
            }
            due("cast(0)", x.cast(0), 4);
            for (int cow = 0; cow < 5; cow++) {
                due("of(" + cow + ", 0)", x.of(cow, 0), 23);
            }
            due("cast(0) again", x.cast(0), 0);
            row(1, 0, 22);
            due("cast(0), none is so low any more", x.cast(0), -3);
        });
        sentence("SLIPS of HEARD against a TUNE: the fewest (what 0), in how many ways (1; 1,000,000,000 at most). NONE.", () -> {
            for (int tune : new int[] {MIN, -1, 0, 3, 4, MAX}) {
                boolean fine = tune == 0 || tune == 3;
                due("slips(" + tune + ", 0)", x.slips(tune, 0), fine ? 0 : -1);
                due("slips(" + tune + ", 1)", x.slips(tune, 1), fine ? 1 : -1);
            }
            for (int what : new int[] {MIN, -1, 2, MAX}) {
                due("slips(0, " + what + ")", x.slips(0, what), -1);
            }
        });
        sentence("The TUNE with NOTES against which HEARD has the fewest SLIPS (the lowest). NONE.", () -> {
            due("hymn() without TUNES", x.hymn(), -1);
            row(2, 0, 1);
            due("hymn() without TUNES", x.hymn(), -1);
            row(1, 3, from(2, 12));
            due("hymn() of one, though none of it was HEARD", x.hymn(), 3);
            row(1, 2, 5);
            due("hymn(), fewer", x.hymn(), 2);
            row(1, 1, 5, 5);
            due("hymn(), fewer", x.hymn(), 2);
            row(1, 0, 6);
            due("hymn(), alike: the lowest", x.hymn(), 0);
            row(1, 3, 1);
            due("hymn(), none at all", x.hymn(), 3);
            row(1, 3, 99);
            due("hymn(), without NOTES again", x.hymn(), 0);
        });
    }

    private void promisesOfTheFog() {
        sentence("EARS: how loud a NOTE was: how many there are. -1; -5.", () -> {
            for (int i = 1; i <= 20; i++) {
                due("ear", x.ear(23, 9), i);
            }
            due("full", x.ear(23, 9), -5);
            due("full, a wrong NOTE: -1 ahead of -5", x.ear(24, 9), -1);
            due("full, too loud: -1 ahead of -5", x.ear(23, 10), -1);
        });
        sentence("EARS are none then: how many there were.", () -> {
            due("deaf() of none", x.deaf(), 0);
            for (int i = 1; i <= 20; i++) {
                x.ear(0, 0);
            }
            due("deaf() of all", x.deaf(), 20);
            due("deaf() of none", x.deaf(), 0);
            due("ear", x.ear(0, 0), 1);
        });
        sentence("in millionths, cut. NONE (CRACKED, too; it can't be at all, too).", () -> {
            cows(1);
            row(0, 0, 1, 2);
            due("likely(0, 0): a third", x.likely(0, 0), 333_333);
            x.ear(5, 1);
            rule("loud 100; loud 1 if left = 2");
            due("likely(0, 0): 100 of 201", x.likely(0, 0), 497_512);
            due("likely(0, 2): 1 of 201", x.likely(0, 2), 4_975);
            rule("loud 0; loud 1 if left = 2");
            due("likely(0, 2): for sure", x.likely(0, 2), 1_000_000);
            due("likely(0, 1): not so", x.likely(0, 1), 0);
            for (int cow : new int[] {MIN, -1, 1, MAX}) {
                due("likely(" + cow + ", 0)", x.likely(cow, 0), -1);
            }
            for (int left : new int[] {MIN, -1, 3, MAX}) {
                due("likely(0, " + left + ")", x.likely(0, left), -1);
            }
        });
        sentence("FOG, kept as the latest: how often one went on or back. -1.", () -> {
            due("fog(0, 200) without COWS", x.fog(0, 200), 0);
            cows(2);
            row(0, 0, 1, 2, 3);
            x.left(0, 2);
            due("fog(0, 1)", x.fog(0, 1), 1);
            due("drawn(0)", x.drawn(0), 3);
            due("fog(1, 1)", x.fog(1, 1), 1);
            due("drawn(0): the latest", x.drawn(0), 1);
            due("fog(0, 201)", x.fog(0, 201), -1);
            due("drawn(0): the latest that was one", x.drawn(0), 1);
        });
        sentence("LEFT of a COW behind the latest FOG; NONE.", () -> {
            due("drawn(0) ahead of any", x.drawn(0), -1);
            cows(5);
            due("drawn(0) ahead of any", x.drawn(0), -1);
            due("fog(0, 0)", x.fog(0, 0), 0);
            for (int cow : new int[] {MIN, -1, 0, 4, 5, MAX}) {
                due("drawn(" + cow + ")", x.drawn(cow), cow == 0 || cow == 4 ? 0 : -1);
            }
            cows(1);
            x.fog(0, 0);
            x.cow(1, 1, 1, 1);
            due("drawn(1), no COW then", x.drawn(1), -1);
        });
        sentence("IMAGE k is kept: 0; -1.", () -> {
            for (int k : new int[] {MIN, -1, 0, 1, 2, MAX}) {
                due("image(" + k + ")", x.image(k), k == 0 || k == 1 ? 0 : -1);
                due("status()", x.status(), k == 0 || k == 1 ? 0 : -1);
            }
        });
        sentence("BACK to IMAGE k: 0. -1; -2 it was not kept.", () -> {
            for (int k : new int[] {MIN, -1, 0, 1, 2, MAX}) {
                due("back(" + k + ")", x.back(k), k == 0 || k == 1 ? -2 : -1);
            }
            x.image(1);
            due("back(0), the other one is kept", x.back(0), -2);
            due("back(1)", x.back(1), 0);
            due("back(2)", x.back(2), -1);
        });
        sentence("7 .. 11 how many calls were REFUSED by -1, -2, -3, -5, -6 (IMAGES do not keep that), 12 the LAW in FORCE. "
                + "NONE for others.", this::counts);
        sentence("was REFUSED by; 0 if it was not, or ahead of any.", this::statuses);
    }

    private void counts() {
        for (int what : new int[] {MIN, -1, 13, MAX}) {
            due("count(" + what + ")", x.count(what), -1);
        }
        cows(5);
        x.image(0);
        for (int i = 0; i < 3; i++) {
            x.call(0);
        }
        for (int i = 0; i < 4; i++) {
            x.cow(0, 1, 0, 0);
        }
        for (int i = 0; i < 5; i++) {
            x.law();
        }
        x.wind(4);
        x.order(5);
        x.order(5);
        x.back(0);
        for (int i = 0; i < 5; i++) {
            due("count(" + (7 + i) + ")", x.count(7 + i), i + 1);
        }
        due("count(12)", x.count(12), -1);
        rule("balks");
        due("count(12)", x.count(12), 0);
        due("count(5)", x.count(5), 5);
        row(0, 4, 1);
        due("count(5)", x.count(5), 4);
    }

    /** Behind each of the seventeen, taken and REFUSED; others leave it. */
    private void statuses() {
        due("status() ahead of any", x.status(), 0);
        x.of(9, 9);
        x.end(9);
        due("status() ahead of any of them", x.status(), 0);
        cows(2);
        row(0, 0, 1, 2, 3);
        int[][] pairs = {{x.cow(24, 1, 1, 1), x.status()}, {x.cow(1, 1, 1, 1) * 0, x.status()},
            {x.put(0, 5, 0), x.status()}, {x.put(0, 3, 1) * 0, x.status()},
            {x.left(9, 0), x.status()}, {x.left(0, 3) * 0, x.status()},
            {x.wind(4), x.status()}, {x.wind(3), x.status()},
            {x.gap(64), x.status()}, {x.gap(63) * 0, x.status()},
            {x.guard(2), x.status()}, {x.guard(1), x.status()},
            {x.row(1, 0), x.status()}, {row(1, 0, 1) * 0, x.status()},
            {x.law(), x.status()}, {law("balks if wind = 0"), x.status()},
            {x.force(1), x.status()}, {x.force(0) * 0, x.status()},
            {x.order(9), x.status()}, {x.order(1) * 0, x.status()},
            {x.call(1), x.status()}, {x.call(0) * 0, x.status()},
            {x.lead(4), x.status()}, {x.lead(1), x.status()},
            {x.cast(4), x.status()}, {x.cast(1), x.status()},
            {x.ear(0, 10), x.status()}, {x.ear(0, 9) * 0, x.status()},
            {x.fog(0, 201), x.status()}, {x.fog(0, 0), x.status()},
            {x.image(2), x.status()}, {x.image(1), x.status()},
            {x.back(0), x.status()}, {x.back(1), x.status()}};
        for (int i = 0; i < pairs.length; i++) {
            due("status() of call " + i, pairs[i][1], pairs[i][0]);
            due("status() of call " + i + " is of one that is REFUSED", pairs[i][1] < 0 ? 0 : 1, i % 2);
        }
        x.wind(4);
        x.feed(0, 0, 0, 0, 0);
        x.end(0);
        x.clear();
        x.deaf();
        x.count(0);
        x.drive(0);
        x.dogs();
        x.would(0, 0);
        due("status() behind others that were answered", x.status(), -1);
        x.wind(1);
        x.end(-1);
        x.of(9, 9);
        x.would(9, 9);
        x.drive(9);
        x.recast(9, 9);
        due("status() behind others that answered NONE", x.status(), 0);
    }

    public static void main(String[] args) throws IOException {
        Path file = Path.of(System.getProperty("project", "."), "..", "shared", "DOC.md");
        BoundariesTest test = new BoundariesTest(Files.readString(file));
        test.termsOne();
        test.termsTwo();
        test.termsThree();
        test.termsFour();
        test.promisesOfCows();
        test.promisesOfTheTape();
        test.promisesOfLaws();
        test.promisesOfCalls();
        test.promisesOfTunes();
        test.promisesOfTheFog();
        end("all boundaries hold");
    }
}
