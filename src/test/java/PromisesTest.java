/** Promise by promise what the document says of it: the ordinary, the edges it names, and wrong numbers. */
public final class PromisesTest extends Trial {
    private void p1() {
        x = new BellHerd();
        for (int what = 0; what <= 11; what++) {
            due("count(" + what + ")", x.count(what), 0);
        }
        due("count(12)", x.count(12), -1);
        due("note(0, -1)", x.note(0, -1), 0);
        due("note(4, -1)", x.note(4, -1), 0);
        due("fault()", x.fault(), -1);
        due("lost()", x.lost(), 0);
        due("status()", x.status(), 0);
        due("drive(0)", x.drive(0), 0);
        due("drive(1)", x.drive(1), 1);
        due("drive(2)", x.drive(2), 1);
        due("dogs()", x.dogs(), 0);
        due("unlawful()", x.unlawful(), 0);
        due("who(0, 0)", x.who(0, 0), -1);
        due("who(0, 1)", x.who(0, 1), -1);
        due("wind(0)", x.wind(0), 0);
        due("guard(0)", x.guard(0), 0);
        due("NONE", BellHerd.NONE, -1);
    }

    private void p2() {
        x = new BellHerd();
        int[][] bad = {{-1, 1, 0, 0}, {24, 1, 0, 0}, {0, 0, 0, 0}, {0, 4, 0, 0}, {0, 1, -1, 0}, {0, 1, 10, 0},
            {0, 1, 0, -1}, {0, 1, 0, 31}};
        for (int[] b : bad) {
            due("cow() with a wrong number", x.cow(b[0], b[1], b[2], b[3]), -1);
        }
        due("count(0)", x.count(0), 0);
        due("count(7)", x.count(7), bad.length);
        due("cow(0, 1, 0, 0)", x.cow(0, 1, 0, 0), 0);
        due("cow(23, 3, 9, 30)", x.cow(23, 3, 9, 30), 1);
        for (int i = 2; i < 5; i++) {
            due("cow(7, 2, 5, 3)", x.cow(7, 2, 5, 3), i);
        }
        due("a sixth", x.cow(7, 2, 5, 3), -5);
        due("status()", x.status(), -5);
        due("a sixth with a wrong number", x.cow(7, 0, 5, 3), -1);
        int[] of = {23, 0, 3, 9, 30, 0, 0, -1};
        for (int what = 0; what < of.length; what++) {
            due("of(1, " + what + ")", x.of(1, what), of[what]);
        }
        due("count(5)", x.count(5), 5);
    }

    private void p3() {
        x = new BellHerd();
        x.cow(3, 2, 4, 5);
        int[] was = {3, 0, 2, 4, 5};
        int[] least = {0, 0, 1, 0, 0};
        int[] most = {23, 1, 3, 9, 30};
        for (int what = 0; what < 5; what++) {
            due("put least", x.put(0, what, least[what]), was[what]);
            due("put most", x.put(0, what, most[what]), least[what]);
            due("put too little", x.put(0, what, least[what] - 1), -1);
            due("put too much", x.put(0, what, most[what] + 1), -1);
            due("of", x.of(0, what), most[what]);
            due("put for none", x.put(1, what, most[what]), -2);
            due("put too much for none", x.put(1, what, most[what] + 1), -1);
        }
        due("put(0, 5, 0)", x.put(0, 5, 0), -1);
        due("put(0, -1, 0)", x.put(0, -1, 0), -1);
        due("put(-1, 0, 0)", x.put(-1, 0, 0), -2);
        due("status()", x.status(), -2);
    }

    private void p4() {
        cows(2);
        due("left(0, 0) without a WAY", x.left(0, 0), 0);
        due("left(0, 1) without a WAY", x.left(0, 1), -1);
        row(0, 0, 1, 2, 3);
        row(0, 1, 4, 2, 5);
        due("left(0, 2)", x.left(0, 2), 3);
        due("left(1, 2), where the other stands", x.left(1, 2), -3);
        due("of(1, 5)", x.of(1, 5), 3);
        due("left(0, 2) as it is", x.left(0, 2), 2);
        due("left(0, 0)", x.left(0, 0), 2);
        due("left(1, 2), when the other is HOME", x.left(1, 2), 3);
        due("left(1, 0)", x.left(1, 0), 2);
        due("left(1, 4)", x.left(1, 4), -1);
        due("left(1, -1)", x.left(1, -1), -1);
        due("left(2, -1)", x.left(2, -1), -2);
        due("left(-1, 0)", x.left(-1, 0), -2);
        due("count(5)", x.count(5), 2);
    }

    private void p5() {
        cows(1);
        row(0, 0, 9, 8, 7);
        int[] of = {5, 0, 1, 0, 10, 3, 3, 9};
        for (int what = 0; what < 8; what++) {
            due("of(0, " + what + ")", x.of(0, what), of[what]);
        }
        x.left(0, 1);
        due("of(0, 7)", x.of(0, 7), 7);
        x.put(0, 1, 1);
        due("of(0, 0) of a CRACKED bell", x.of(0, 0), 5);
        x.left(0, 0);
        due("of(0, 7) at HOME", x.of(0, 7), -1);
        due("of(0, 8)", x.of(0, 8), -1);
        due("of(0, -1)", x.of(0, -1), -1);
        due("of(1, 0)", x.of(1, 0), -1);
        due("of(-1, 0)", x.of(-1, 0), -1);
        due("of(MAX, MAX)", x.of(Integer.MAX_VALUE, Integer.MAX_VALUE), -1);
    }

    private void p6() {
        cows(1);
        due("cell(0, 0) without a WAY", x.cell(0, 0), -1);
        row(0, 0, 9, 0, 63);
        due("cell(0, 0)", x.cell(0, 0), 9);
        due("cell(0, 1)", x.cell(0, 1), 0);
        due("cell(0, 2)", x.cell(0, 2), 63);
        x.left(0, 0);
        due("cell(0, 0) of one that is HOME", x.cell(0, 0), 9);
        due("cell(0, 3)", x.cell(0, 3), -1);
        due("cell(0, -1)", x.cell(0, -1), -1);
        due("cell(1, 0)", x.cell(1, 0), -1);
        due("cell(-1, 0)", x.cell(-1, 0), -1);
    }

    private void p7() {
        x = new BellHerd();
        due("wind(3)", x.wind(3), 0);
        due("wind(4)", x.wind(4), -1);
        due("status()", x.status(), -1);
        due("wind(-1)", x.wind(-1), -1);
        due("wind(1)", x.wind(1), 3);
        due("status()", x.status(), 0);
    }

    private void p8() {
        x = new BellHerd();
        due("gap(-1)", x.gap(-1), -1);
        due("gap(64)", x.gap(64), -1);
        int[] cells = {0, 63, 7, 8, 9};
        for (int i = 0; i < 5; i++) {
            due("gap", x.gap(cells[i]), i + 1);
            due("gap again", x.gap(cells[i]), -3);
        }
        due("a sixth", x.gap(10), -5);
        due("a sixth that is one", x.gap(63), -3);
        due("a sixth that can't be", x.gap(64), -1);
        due("count(2)", x.count(2), 5);
    }

    private void p9() {
        x = new BellHerd();
        due("guard(1) without GAPS", x.guard(1), -1);
        x.gap(1);
        x.gap(2);
        due("guard(2)", x.guard(2), 0);
        due("guard(3)", x.guard(3), 2);
        due("guard(4)", x.guard(4), -1);
        due("guard(-1)", x.guard(-1), -1);
        due("guard(MIN)", x.guard(Integer.MIN_VALUE), -1);
        x.gap(3);
        due("guard(4)", x.guard(4), 3);
    }

    private void p10() {
        cows(1);
        due("feed", x.feed(0x01020304, 0x05060708, 0x09FF0A0B, 0x80000000, 0x0C0D0E0F), 20);
        due("end(11)", x.end(11), 11);
        due("row(0, 0)", x.row(0, 0), 9);
        for (int i = 0; i < 9; i++) {
            due("cell(0, " + i + ")", x.cell(0, i), i + 1);
        }
        due("lost()", x.lost(), 2);
        for (int i = 1; i <= 20; i++) {
            due("feed", x.feed(i, i, i, i, i), 20 * i);
        }
        due("feed beyond 400", x.feed(1, 1, 1, 1, 1), -1);
        due("count(6)", x.count(6), 400);
        due("end(381)", x.end(381), 381);
        due("feed beyond 400", x.feed(1, 1, 1, 1, 1), -1);
        due("end(380)", x.end(380), 380);
        due("feed to 400", x.feed(1, 1, 1, 1, 1), 400);
        due("count(7), for NONE is not REFUSED", x.count(7), 0);
    }

    private void p11() {
        x = new BellHerd();
        due("end(0)", x.end(0), 0);
        due("end(1)", x.end(1), -1);
        x.feed(0, 0, 0, 0, 0);
        due("end(21)", x.end(21), -1);
        due("end(-1)", x.end(-1), -1);
        due("count(6)", x.count(6), 20);
        due("end(20)", x.end(20), 20);
        due("end(3)", x.end(3), 3);
        due("feed", x.feed(0, 0, 0, 0, 0), 23);
        due("count(7)", x.count(7), 0);
    }

    private void p12() {
        cows(2);
        due("a WAY", row(0, 0, 1, 2, 64, 2, 200, 3), 3);
        due("lost()", x.lost(), 3);
        due("count(6)", x.count(6), 0);
        due("of(0, 5)", x.of(0, 5), 3);
        due("a WAY that begins where another stands", row(0, 1, 255, 1, 7), -3);
        due("a WAY that begins there behind a LOST 64", row(0, 1, 64, 1, 7), -3);
        due("count(6)", x.count(6), 0);
        due("of(1, 6)", x.of(1, 6), 0);
        due("lost() stays", x.lost(), 3);
        due("a WAY that only goes on there", row(0, 1, 7, 1), 2);
        due("its own beginning", row(0, 0, 1, 2), 2);
        due("ten CELLS", row(0, 1, 10, 11, 12, 13, 14, 15, 16, 17, 18, 19), 9);
        due("lost()", x.lost(), 1);
        due("a WAY of LOST bytes alone", row(0, 1, 64, 65), 0);
        due("lost()", x.lost(), 2);
        due("of(1, 5)", x.of(1, 5), 0);
        due("a TUNE", row(1, 3, 0, 23, 24, 23, 1), 4);
        due("lost()", x.lost(), 1);
        due("a TUNE of 13", row(1, 3, 1, 1, 1, 1, 1, 1, 1, 1, 1, 1, 1, 1, 1), 12);
        due("HEARD of 25", row(2, 0, new int[25]), 24);
        due("lost()", x.lost(), 1);
        due("an empty TAPE", x.row(2, 0), -6);
        due("an empty TAPE", x.row(0, 0), -6);
        due("HEARD stays", x.note(4, -1), 24);
        due("row(3, 0)", row(3, 0, 1), -1);
        due("row(-1, 0)", x.row(-1, 0), -1);
        due("row(1, 4)", x.row(1, 4), -1);
        due("row(1, -1)", x.row(1, -1), -1);
        due("row(2, 1)", x.row(2, 1), -1);
        due("row(0, 2)", x.row(0, 2), -2);
        due("row(0, -1)", x.row(0, -1), -2);
        due("the TAPE stays by -1, -2", x.count(6), 1);
        due("lost() stays", x.lost(), 1);
    }

    private void p13() {
        cows(1);
        row(1, 0, 99, 98, 1);
        due("lost()", x.lost(), 2);
        x.row(1, 0);
        due("lost() behind a REFUSED one", x.lost(), 2);
        row(1, 0, 1);
        due("lost()", x.lost(), 0);
        row(1, 0, 99);
        x.image(0);
        row(1, 0, 1);
        x.back(0);
        due("lost() is not kept by IMAGES", x.lost(), 0);
    }

    private void p14() {
        x = new BellHerd();
        row(1, 2, 7, 8);
        row(2, 0, 9);
        due("note(2, -1)", x.note(2, -1), 2);
        due("note(2, 0)", x.note(2, 0), 7);
        due("note(2, 1)", x.note(2, 1), 8);
        due("note(2, 2)", x.note(2, 2), -1);
        due("note(2, -2)", x.note(2, -2), -1);
        due("note(4, -1)", x.note(4, -1), 1);
        due("note(4, 0)", x.note(4, 0), 9);
        due("note(0, 0)", x.note(0, 0), -1);
        due("note(5, -1)", x.note(5, -1), -1);
        due("note(-1, -1)", x.note(-1, -1), -1);
    }

    private void p15() {
        x = new BellHerd();
        for (int i = 0; i < 6; i++) {
            due("law()", law("balks if wind=" + i), i);
        }
        due("law() that can't be, ahead of a seventh", law("balk"), -5);
        due("fault() of one that was not read", x.fault(), -1);
        due("count(6)", x.count(6), 0);
        due("count(1)", x.count(1), 6);
        due("count(10)", x.count(10), 1);
        x = new BellHerd();
        due("law() that can't be", law("balk"), -6);
        due("status()", x.status(), -6);
        due("count(11)", x.count(11), 1);
        due("law()", law("balks"), 0);
        due("status()", x.status(), 0);
    }

    private void p16() {
        faultOf("", 0);
        faultOf("   ", 3);
        faultOf("balks", -1);
        faultOf("  follows  ", -1);
        faultOf("Balks", 0);
        faultOf("balksif", 0);
        faultOf("balks;", 6);
        faultOf("balks; ", 7);
        faultOf(";balks", 0);
        faultOf("balks if", 8);
        faultOf("balks if 1", 10);
        faultOf("balks if 1 <", 12);
        faultOf("balks if 1 < 2", -1);
        faultOf("balks if 1 < 2 < 3", 15);
        faultOf("balks if 1 < 2)", 14);
        faultOf("balks if (1) < 2", 11);
        faultOf("balks if [1] < 2", -1);
        faultOf("balks if [1 < 2]", 12);
        faultOf("balks if not", 12);
        faultOf("balks if not not 1=1", -1);
        faultOf("balks if not" + times(" not", 90) + " 1=1", -1);
        faultOf("balks if 1=1 and", 16);
        faultOf("balks if 1=1 or or 1=1", 16);
        faultOf("balks if 1=1 if 1=1", 13);
        faultOf("steps -1", 6);
        faultOf("steps 1 2", 8);
        faultOf("steps 1+", 8);
        faultOf("steps 1 + * 2", 10);
        faultOf("steps (1)", 6);
        faultOf("steps 1000", -1);
        faultOf("steps 1001", 6);
        faultOf("steps 0001000", -1);
        faultOf("steps 99999999999999999999", 6);
        faultOf("steps 1a", 7);
        faultOf("steps\t1", 5);
        faultOf("steps 1" + (char) 160, 7);
        faultOf("steps wolf", 6);
        faultOf("rank cow+note-pace*fear/age+left+called+wind+home+heard", -1);
        faultOf("loud heard if heard>3;loud 2", -1);
        faultOf(times("balks;", 11) + "balks", -1);
        faultOf(times("balks;", 12) + " balks", 73);
        faultOf(times("balks;", 12), 72);
        faultOf("rank 1" + times("+1", 49), -1);
        faultOf("rank 1" + times("+1", 50), 105);
        faultOf("rank 1" + times("+1", 49) + ";rank heard", 110);
        faultOf("rank [1]" + times("+[1]", 49), -1);
        faultOf("rank " + times("[", 8) + "1" + times("]", 8), -1);
        faultOf("rank " + times("[", 9) + "1" + times("]", 9), 13);
        faultOf("balks if " + times("(", 7) + "[1]=1" + times(")", 7), -1);
        faultOf("balks if " + times("(", 8) + "1=1" + times(")", 8), -1);
        faultOf("balks if " + times("(", 8) + "[1]=1" + times(")", 8), 17);
        faultOf("balks if " + times("(", 9) + "1=1" + times(")", 9), 17);
        faultOf("balks if (((((((([1", 17);
        faultOf("balks if ((1=1)) or (((1=1)", 27);
        x = new BellHerd();
        law("steps");
        x.image(0);
        law("balks");
        due("fault()", x.fault(), -1);
        law("rank");
        x.back(0);
        due("fault() is not kept by IMAGES", x.fault(), 4);
    }

    private void p17() {
        x = new BellHerd();
        due("force(0)", x.force(0), -2);
        due("force(-1)", x.force(-1), -1);
        due("status()", x.status(), 0);
        law("balks");
        law("follows");
        due("force(1)", x.force(1), -1);
        due("count(12)", x.count(12), 1);
        due("force(2)", x.force(2), -2);
        due("force(-2)", x.force(-2), -2);
        due("force(0)", x.force(0), 1);
        due("force(-1)", x.force(-1), 0);
        due("count(12)", x.count(12), -1);
        due("count(8)", x.count(8), 3);
    }

    private void p18and19() {
        cows(3);
        about = "promise 18";
        due("order(2)", x.order(2), 1);
        due("order(0)", x.order(0), 2);
        due("order(2)", x.order(2), -3);
        due("order(3)", x.order(3), -2);
        due("order(-1)", x.order(-1), -2);
        due("who(0, 0)", x.who(0, 0), 2);
        due("who(1, 0)", x.who(1, 0), 0);
        about = "promise 19";
        due("clear()", x.clear(), 2);
        due("clear()", x.clear(), 0);
        due("count(3)", x.count(3), 0);
        due("order(2)", x.order(2), 1);
    }

    private void p20() {
        cows(4);
        due("who(3, 1) without", x.who(3, 1), 3);
        rule("rank 0 - age;rank 7 if cow = 3 and called = 0 - 1;rank 1 / 0");
        int[] ranks = {2, 1, 0, 3};
        for (int i = 0; i < 4; i++) {
            due("who(" + i + ", 1)", x.who(i, 1), ranks[i]);
        }
        rule("rank left + home");
        row(0, 1, 1);
        ranks = new int[] {0, 2, 3, 1};
        for (int i = 0; i < 4; i++) {
            due("who(" + i + ", 1)", x.who(i, 1), ranks[i]);
        }
        rule("rank note if cow < 2");
        x.put(1, 1, 1);
        ranks = new int[] {1, 2, 3, 0};
        for (int i = 0; i < 4; i++) {
            due("who(" + i + ", 1), one CRACKED", x.who(i, 1), ranks[i]);
        }
        rule("rank 1000 * 1000 * 1000 * [cow - 1]");
        ranks = new int[] {0, 1, 3, 2};
        for (int i = 0; i < 4; i++) {
            due("who(" + i + ", 1) by a billion", x.who(i, 1), ranks[i]);
        }
        due("who(4, 1)", x.who(4, 1), -1);
        due("who(-1, 1)", x.who(-1, 1), -1);
        due("who(0, 2)", x.who(0, 2), -1);
        due("who(0, -1)", x.who(0, -1), -1);
        x.order(3);
        due("who(0, 0)", x.who(0, 0), 3);
        due("who(1, 0)", x.who(1, 0), -1);
        due("who(-1, 0)", x.who(-1, 0), -1);
    }

    private void p21() {
        cows(4);
        x.order(3);
        x.order(1);
        x.order(0);
        due("unlawful() without", x.unlawful(), 3);
        rule("rank 0 - cow");
        due("unlawful()", x.unlawful(), 0);
        x.clear();
        x.order(0);
        x.order(1);
        x.order(2);
        x.order(3);
        due("unlawful()", x.unlawful(), 6);
    }

    private void p22() {
        cows(3);
        due("call(0) at HOME", x.call(0), -3);
        due("call(3)", x.call(3), -2);
        due("call(-1)", x.call(-1), -2);
        row(0, 0, 1, 2, 3, 4, 5);
        row(0, 1, 11, 4, 13);
        row(0, 2, 21, 22);
        x.put(0, 2, 3);
        x.left(1, 2);
        due("call(0), stopped by another", x.call(0), 2);
        due("of(0, 7)", x.of(0, 7), 3);
        due("call(0), stopped at once", x.call(0), 0);
        x.left(1, 1);
        due("call(0), HOME out of the ORDER", x.call(0), -3);
        due("of(0, 5)", x.of(0, 5), 3);
        x.order(0);
        due("call(0)", x.call(0), 3);
        due("of(0, 5)", x.of(0, 5), 0);
        due("status()", x.status(), 0);

        cows(3);
        rule("steps 0-5;steps 9 if left=5;steps 1/0 if left=5;steps 2 if left=2;balks if called=1 and cow=0;"
                + "follows if cow=2 and home=1");
        row(0, 0, 1, 2, 3, 4, 5);
        row(0, 1, 11, 12);
        row(0, 2, 21, 22);
        x.order(1);
        x.order(2);
        due("call(0), nobody HOME: 3 CELLS at most", x.call(0), 3);
        due("call(0): 0 CELLS at least by 0-5", x.left(0, 4) == 2 ? x.call(0) : -9, 0);
        due("call(1), by which one is HOME and one follows", x.call(1), 3);
        due("of(2, 5)", x.of(2, 5), 1);
        due("call(2) by 0 CELLS", x.call(2), 0);
        due("call(0), by which the next comes HOME", x.call(0), 1);
        due("of(2, 5)", x.of(2, 5), 0);

        cows(3);
        rule("balks if cow=called;follows");
        row(0, 0, 1, 2);
        row(0, 1, 2, 1);
        row(0, 2, 9);
        due("call(0): one that balks, two that follow it not", x.call(0), -3);
        x.order(2);
        due("call(0): the called one balks, others follow", x.call(0), 1);
        due("of(0, 5)", x.of(0, 5), 2);
        due("of(1, 5), for another stands there", x.of(1, 5), 2);
        wolves();
    }

    private void wolves() {
        cows(2);
        row(0, 0, 1, 2, 3);
        row(0, 1, 11, 12, 13);
        x.gap(2);
        x.gap(11);
        due("call(0): into a GAP, and one stays in one", x.call(0), -3);
        x.guard(1);
        due("call(0): one stays in a GAP", x.call(0), -3);
        due("call(1): out of a GAP", x.call(1), 1);
        due("call(0): into a GUARDED GAP", x.call(0), 1);
        x.guard(0);
        x.left(0, 3);
        x.put(0, 2, 2);
        due("call(0): through a GAP", x.call(0), 2);
        due("of(0, 7)", x.of(0, 7), 3);
    }

    private void p23() {
        cows(2);
        row(0, 0, 1, 2, 3);
        row(0, 1, 11, 12, 13);
        rule("steps 2; follows if cow = 1");
        due("would(0, 0)", x.would(0, 0), 1);
        due("would(0, 1)", x.would(0, 1), 2);
        due("would(1, 0)", x.would(1, 0), 3);
        due("would(1, 1)", x.would(1, 1), 1);
        due("of(0, 5): it is not made", x.of(0, 5), 3);
        due("would(2, 0)", x.would(2, 0), -1);
        due("would(0, 2)", x.would(0, 2), -1);
        due("would(-1, 0)", x.would(-1, 0), -1);
        due("would(0, -1)", x.would(0, -1), -1);
        x.left(0, 2);
        due("would(0, 1): it can't be called", x.would(0, 1), -1);
        x.gap(13);
        due("would(1, 0): it can't be called", x.would(1, 0), -1);
        x.left(0, 0);
        due("would(0, 1): it is HOME", x.would(0, 1), -1);
        due("count(9)", x.count(9), 0);
    }

    private void p24and25() {
        about = "promise 24";
        cows(2);
        row(0, 0, 1, 2);
        row(0, 1, 11, 12);
        due("drive(0) without an ORDER", x.drive(0), 0);
        due("drive(2) without an ORDER", x.drive(2), 4);
        x.order(1);
        due("drive(0)", x.drive(0), 2);
        due("drive(1)", x.drive(1), 1);
        due("drive(2), beyond what a DRIVE needs", x.drive(2), 6);
        x.order(0);
        due("drive(0)", x.drive(0), 4);
        due("drive(1)", x.drive(1), 3);
        due("drive(2)", x.drive(2), 7);
        due("drive(3)", x.drive(3), -1);
        due("drive(-1)", x.drive(-1), -1);
        about = "promise 25";
        int[] first = {0, 1, 1, 0};
        for (int i = 0; i < 4; i++) {
            due("calls(" + i + ")", x.calls(i), first[i]);
        }
        due("calls(4)", x.calls(4), -1);
        due("calls(-1)", x.calls(-1), -1);
        x.wind(1);
        rule("balks if wind = 1");
        due("drive(0), none at all", x.drive(0), -1);
        due("drive(1), none at all", x.drive(1), 0);
        due("drive(2), none at all", x.drive(2), 1);
        due("calls(0), none at all", x.calls(0), -1);
        x.wind(0);
        due("drive(0)", x.drive(0), 4);
        x.clear();
        due("drive(0)", x.drive(0), 0);
        due("calls(0)", x.calls(0), -1);
        manyDrives();
    }

    private void manyDrives() {
        about = "promise 24";
        cows(5);
        for (int cow = 0; cow < 5; cow++) {
            int[] way = new int[9];
            for (int i = 0; i < 9; i++) {
                way[i] = cow * 9 + i;
            }
            due("row", row(0, cow, way), 9);
            x.order(4 - cow);
        }
        due("drive(0)", x.drive(0), 45);
        due("drive(1)", x.drive(1), 1_000_000_000);
        due("drive(2)", x.drive(2), 9 * 9 * 9 * 9 * 9 + 9 * 9 * 9 * 9 + 9 * 9 * 9 + 9 * 9 + 9 + 1);
        about = "promise 25";
        for (int i = 0; i < 45; i++) {
            int want = i < 32 ? i / 8 : i < 41 ? 4 : 3 - (i - 41);
            due("calls(" + i + ")", x.calls(i), want);
        }
        due("calls(45)", x.calls(45), -1);
        about = "promise 26";
        x.gap(0);
        x.gap(8);
        x.gap(44);
        due("dogs()", x.dogs(), 6);
    }

    private void p26() {
        cows(2);
        due("dogs()", x.dogs(), 0);
        row(0, 0, 1, 2, 3);
        row(0, 1, 11, 12, 3);
        x.order(0);
        x.order(1);
        x.gap(11);
        x.gap(2);
        x.gap(12);
        due("dogs(): one begins in a GAP and is called first", x.dogs(), 6);
        x.left(1, 0);
        due("dogs()", x.dogs(), 2);
        x.guard(5);
        due("dogs() whatever is GUARDED", x.dogs(), 2);
        x.put(0, 2, 2);
        due("dogs()", x.dogs(), 0);
        rule("steps 1; steps 2 if wind = 1; balks if wind = 2");
        due("dogs()", x.dogs(), 2);
        x.wind(2);
        due("dogs(): none at all", x.dogs(), -1);
        x.clear();
        due("dogs(): all are HOME", x.dogs(), 0);

        cows(2);
        rule("steps 1;steps 2 if cow=0;follows if called=1 and cow=0");
        row(0, 0, 1, 2, 3);
        row(0, 1, 11, 12);
        x.order(0);
        x.gap(20);
        x.gap(3);
        x.gap(2);
        due("dogs(): of alike ones the lowest", x.dogs(), 2);
        x.gap(12);
        x.left(0, 2);
        due("dogs(): none is needed", x.dogs(), 0);
    }

    private void p27and28() {
        about = "promise 27";
        cows(4);
        x.put(3, 0, 5);
        row(1, 1, 6, 5, 6, 5, 5, 9);
        x.order(2);
        due("lead(1)", x.lead(1), 3);
        int[] led = {1, 0, 3};
        for (int i = 0; i < 3; i++) {
            due("who(" + i + ", 0)", x.who(i, 0), led[i]);
        }
        x.put(0, 1, 1);
        due("lead(1), one CRACKED", x.lead(1), 2);
        due("who(1, 0)", x.who(1, 0), 3);
        due("lead(4)", x.lead(4), -1);
        due("lead(-1)", x.lead(-1), -1);
        due("count(3)", x.count(3), 2);
        due("lead(0) without NOTES", x.lead(0), 0);
        due("count(3)", x.count(3), 0);
        about = "promise 28";
        due("rung(1)", x.rung(1), 0);
        due("rung(0) without NOTES", x.rung(0), 1);
        row(1, 2, 7, 5);
        due("rung(2)", x.rung(2), 1);
        row(1, 2, 5, 5);
        due("rung(2), one CRACKED", x.rung(2), 0);
        x.put(0, 1, 0);
        due("rung(2)", x.rung(2), 1);
        due("rung(4)", x.rung(4), -1);
        due("rung(-1)", x.rung(-1), -1);
    }

    private void p29to31() {
        about = "promise 29";
        cows(4);
        row(1, 0, 8, 6);
        due("recast(0, 0)", x.recast(0, 0), 0);
        due("recast(0, 1)", x.recast(0, 1), 1);
        row(1, 0, 9, 9, 6);
        due("recast(0, 0)", x.recast(0, 0), 2);
        due("recast(0, 1)", x.recast(0, 1), 6);
        about = "promise 30";
        int[] first = {0, 2, 1};
        for (int i = 0; i < 3; i++) {
            due("hoof(0, " + i + ")", x.hoof(0, i), first[i]);
        }
        due("hoof(0, 3)", x.hoof(0, 3), -1);
        due("hoof(0, -1)", x.hoof(0, -1), -1);
        due("hoof(4, 0)", x.hoof(4, 0), -1);
        due("hoof(-1, 0)", x.hoof(-1, 0), -1);
        due("hoof(1, 0) without NOTES", x.hoof(1, 0), -1);
        about = "promise 31";
        due("cast(0)", x.cast(0), 2);
        int[] notes = {9, 6, 9, 8};
        for (int i = 0; i < 4; i++) {
            due("of(" + i + ", 0)", x.of(i, 0), notes[i]);
        }
        due("cast(0) again", x.cast(0), 0);
        due("cast(1) without NOTES", x.cast(1), 0);
        due("cast(4)", x.cast(4), -1);
        due("cast(-1)", x.cast(-1), -1);
        row(1, 2, 5);
        due("cast(2): all are higher", x.cast(2), -3);
        row(1, 3, 20, 20, 20, 20, 20, 20);
        due("cast(3): too many NOTES", x.cast(3), -3);
        about = "promise 29";
        due("recast(2, 0): all are higher", x.recast(2, 0), -1);
        due("recast(2, 1): all are higher", x.recast(2, 1), 0);
        due("recast(3, 0): too many NOTES", x.recast(3, 0), -1);
        due("hoof(3, 5): too many NOTES", x.hoof(3, 5), -1);
        due("hoof(2, 0): it can't be", x.hoof(2, 0), -1);
        due("recast(1, 0) without NOTES", x.recast(1, 0), 0);
        due("recast(1, 1) without NOTES", x.recast(1, 1), 1);
        due("recast(0, 2)", x.recast(0, 2), -1);
        due("recast(0, -1)", x.recast(0, -1), -1);
        due("recast(4, 1)", x.recast(4, 1), -1);
        x.put(1, 1, 1);
        due("recast(0, 0): one CRACKED", x.recast(0, 0), -1);
        cows(5);
        row(1, 0, 20, 20, 20, 20, 20);
        due("recast(0, 0)", x.recast(0, 0), 5);
        due("recast(0, 1)", x.recast(0, 1), 120);
    }

    private void p32() {
        x = new BellHerd();
        due("sold() without COWS", x.sold(), -1);
        cows(3);
        due("sold() without TUNES", x.sold(), 0);
        row(1, 0, 5);
        due("sold()", x.sold(), 1);
        row(1, 3, 6);
        due("sold()", x.sold(), 2);
        row(1, 1, 7);
        due("sold(), alike but by FEWEST", x.sold(), 1);
        x.put(0, 1, 1);
        due("sold(), a CRACKED one", x.sold(), 0);

        cows(2);
        row(1, 0, 5, 6);
        due("sold(), both can't be: the lowest", x.sold(), 0);
        row(1, 1, 5);
        due("sold()", x.sold(), 1);
    }

    private int slips(String heard, String tune, int what) {
        x = new BellHerd();
        int[] h = heard.chars().map(c -> c - 'a').toArray();
        int[] t = tune.chars().map(c -> c - 'a').toArray();
        if (h.length > 0) {
            row(2, 0, h);
        }
        if (t.length > 0) {
            row(1, 1, t);
        }
        return x.slips(1, what);
    }

    private void slipsDue(String heard, String tune, int fewest, int ways) {
        due("slips of " + heard + " against " + tune, slips(heard, tune, 0), fewest);
        due("ways of " + heard + " against " + tune, slips(heard, tune, 1), ways);
    }

    private void p33() {
        slipsDue("", "", 0, 1);
        slipsDue("", "abc", 3, 1);
        slipsDue("abc", "", 3, 1);
        slipsDue("abc", "abc", 0, 1);
        slipsDue("aabc", "abc", 1, 2);
        slipsDue("ac", "abc", 1, 1);
        slipsDue("axc", "abc", 1, 1);
        slipsDue("ab", "ba", 1, 1);
        slipsDue("bca", "abc", 2, 1);
        slipsDue("ca", "abc", 3, 5);
        slipsDue("aaaaaaaaaaaaaaaaaaaaaaaa", "aaaaaaaaaaaa", 12, 2_704_156);
        slipsDue("badc", "abcd", 2, 1);
        due("slips(1, 2)", x.slips(1, 2), -1);
        due("slips(1, -1)", x.slips(1, -1), -1);
        due("slips(4, 0)", x.slips(4, 0), -1);
        due("slips(-1, 0)", x.slips(-1, 0), -1);
    }

    private void p34() {
        x = new BellHerd();
        row(2, 0, 1, 2, 3);
        due("hymn() without TUNES", x.hymn(), -1);
        row(1, 3, 1, 2, 3);
        due("hymn()", x.hymn(), 3);
        row(1, 1, 1, 2, 4);
        due("hymn()", x.hymn(), 3);
        row(1, 2, 1, 2, 3);
        due("hymn(): of alike ones the lowest", x.hymn(), 2);
    }

    private void p35and36() {
        about = "promise 35";
        x = new BellHerd();
        due("ear(24, 0)", x.ear(24, 0), -1);
        due("ear(-1, 0)", x.ear(-1, 0), -1);
        due("ear(0, 10)", x.ear(0, 10), -1);
        due("ear(0, -1)", x.ear(0, -1), -1);
        for (int i = 1; i <= 20; i++) {
            due("ear", x.ear(i % 2 * 23, i % 2 * 9), i);
        }
        due("ear(0, 0)", x.ear(0, 0), -5);
        due("ear(0, 10)", x.ear(0, 10), -1);
        due("count(4)", x.count(4), 20);
        about = "promise 36";
        due("deaf()", x.deaf(), 20);
        due("deaf()", x.deaf(), 0);
        due("ear(0, 0)", x.ear(0, 0), 1);
    }

    private void p37() {
        cows(2);
        due("likely(0, 0) without a WAY", x.likely(0, 0), 1_000_000);
        row(0, 0, 1, 2, 3);
        due("likely(0, 0) without EARS", x.likely(0, 0), 250_000);
        due("likely(0, 4)", x.likely(0, 4), -1);
        due("likely(0, -1)", x.likely(0, -1), -1);
        due("likely(2, 0)", x.likely(2, 0), -1);
        due("likely(-1, 0)", x.likely(-1, 0), -1);
        x.ear(6, 3);
        x.ear(5, 1);
        rule("loud left * 60 - 60");
        int[] want = {0, 0, 375_000, 625_000};
        for (int left = 0; left < 4; left++) {
            due("likely(0, " + left + ")", x.likely(0, left), want[left]);
        }
        x.ear(5, 9);
        rule("loud left if heard = 9 and left < 3 or called > 0-1; loud 1 / 0 if heard = 9");
        want = new int[] {0, 18_867, 37_735, 943_396};
        for (int left = 0; left < 4; left++) {
            due("likely(0, " + left + "), 50 without", x.likely(0, left), want[left]);
        }
        rule("loud 0 if heard = 9");
        due("likely(0, 0): it can't be at all", x.likely(0, 0), -1);
        due("likely(1, 0): another's EARS", x.likely(1, 0), 1_000_000);
        x.put(0, 1, 1);
        x.force(-1);
        due("likely(0, 0) of a CRACKED bell", x.likely(0, 0), -1);
        x.put(0, 1, 0);
        due("likely(0, 0)", x.likely(0, 0), 250_000);
        manyEars();
    }

    private void manyEars() {
        cows(1);
        row(0, 0, 1, 2, 3, 4, 5, 6, 7, 8, 9);
        for (int i = 0; i < 20; i++) {
            x.ear(5, 1);
        }
        rule("loud 100 - left");
        java.math.BigInteger all = java.math.BigInteger.ZERO;
        for (int left = 0; left <= 9; left++) {
            all = all.add(java.math.BigInteger.valueOf(100 - left).pow(20));
        }
        for (int left = 0; left <= 9; left++) {
            due("likely(0, " + left + ") by twenty EARS", x.likely(0, left), java.math.BigInteger.valueOf(100 - left)
                    .pow(20).multiply(java.math.BigInteger.valueOf(1_000_000)).divide(all).intValue());
        }
    }

    private void p38and39() {
        about = "promise 38";
        cows(3);
        due("fog(-1, 0)", x.fog(-1, 0), -1);
        due("fog(1000001, 0)", x.fog(1_000_001, 0), -1);
        due("fog(0, -1)", x.fog(0, -1), -1);
        due("fog(0, 201)", x.fog(0, 201), -1);
        about = "promise 39";
        due("drawn(0) without FOG", x.drawn(0), -1);
        row(0, 0, 1, 2, 3, 4);
        row(0, 2, 3, 9);
        about = "promise 38";
        due("fog(1000000, 0)", x.fog(1_000_000, 0), 0);
        about = "promise 39";
        due("drawn(0)", x.drawn(0), 4);
        due("drawn(1)", x.drawn(1), 0);
        due("drawn(2)", x.drawn(2), 2);
        due("drawn(3)", x.drawn(3), -1);
        due("drawn(-1)", x.drawn(-1), -1);
        about = "promise 38";
        // 0 draws 12345: 0, 13616 * 1103 + 12345 and so on, by hand with the document's numbers
        long s = 0;
        int[] left = {4, 2};
        int gone = 0;
        for (int round = 0; round < 200; round++) {
            s = (s * 1103 + 12345) % 1_000_003;
            if (s % 3 == 0 && left[0] < 4 && !(left[0] == 1 && left[1] == 2)) {
                left[0]++;
                gone++;
            } else if (s % 3 == 2 && left[0] > 1 && !(left[0] == 3 && left[1] == 2)) {
                left[0]--;
                gone++;
            }
            s = (s * 1103 + 12345) % 1_000_003;
            if (s % 3 == 0 && left[1] == 1 && left[0] != 2) {
                left[1] = 2;
                gone++;
            } else if (s % 3 == 2 && left[1] == 2) {
                left[1] = 1;
                gone++;
            }
            if (round == 4) {
                due("fog(0, 5)", x.fog(0, 5), gone);
                due("drawn(0)", x.drawn(0), left[0]);
                due("drawn(2)", x.drawn(2), left[1]);
            }
        }
        due("fog(0, 200)", x.fog(0, 200), gone);
        due("drawn(0)", x.drawn(0), left[0]);
        due("drawn(2)", x.drawn(2), left[1]);
        due("of(0, 5): on paper alone", x.of(0, 5), 4);
        about = "promise 39";
        x.cow(1, 1, 1, 1);
        due("drawn(3), who came later", x.drawn(3), -1);
        x.fog(0, 201);
        due("drawn(0) behind a REFUSED one", x.drawn(0), left[0]);
        drawnBehindBack();
    }

    /** The latest FOG is not kept by an IMAGE, so BACK changes nothing in it, even of COWS that are gone by it. */
    private void drawnBehindBack() {
        cows(1);
        row(0, 0, 1, 2, 3);
        due("image(0), one COW", x.image(0), 0);
        x.cow(1, 1, 1, 1);
        row(0, 1, 10, 11);
        x.cow(2, 1, 1, 1);
        due("image(1), three COWS", x.image(1), 0);
        due("fog(0, 0)", x.fog(0, 0), 0);
        x.left(0, 1);
        due("back(0)", x.back(0), 0);
        due("drawn(0), who is a COW still", x.drawn(0), 3);
        due("drawn(1), who is none now", x.drawn(1), 2);
        due("drawn(2), who is none now", x.drawn(2), 0);
        due("drawn(3), who never was one", x.drawn(3), -1);
        due("drawn(-1)", x.drawn(-1), -1);
        due("of(1, 5)", x.of(1, 5), -1);
        due("cow: another one is COW 1", x.cow(4, 1, 1, 1), 1);
        due("drawn(1): LEFT of who was COW 1 in the FOG", x.drawn(1), 2);
        due("fog(0, 0), two COWS", x.fog(0, 0), 0);
        due("drawn(1)", x.drawn(1), 0);
        due("drawn(2), who is not in the latest FOG", x.drawn(2), -1);
        due("back(1)", x.back(1), 0);
        due("drawn(2): a COW now, but not in the latest FOG", x.drawn(2), -1);
        due("drawn(1) is as it was", x.drawn(1), 0);
    }

    private void p40and41() {
        about = "promise 40";
        cows(2);
        due("image(2)", x.image(2), -1);
        due("image(-1)", x.image(-1), -1);
        about = "promise 41";
        due("back(2)", x.back(2), -1);
        due("back(-1)", x.back(-1), -1);
        due("back(0)", x.back(0), -2);
        row(0, 0, 1, 2, 3);
        row(1, 0, 7, 8);
        row(2, 0, 9);
        x.wind(2);
        x.gap(4);
        x.guard(1);
        rule("steps 2");
        x.order(1);
        x.ear(5, 5);
        about = "promise 40";
        due("image(1)", x.image(1), 0);
        x.cow(1, 1, 1, 1);
        x.put(0, 0, 23);
        x.left(0, 1);
        row(0, 1, 30, 31);
        row(1, 0, 1);
        row(2, 0, 2, 3, 4);
        x.wind(1);
        x.guard(0);
        x.gap(5);
        rule("balks");
        x.order(0);
        x.ear(6, 6);
        x.fog(3, 3);
        due("image(0)", x.image(0), 0);
        x.feed(0, 0, 0, 0, 0);
        int[] fogged = {x.drawn(0), x.drawn(1)};
        about = "promise 41";
        due("back(1)", x.back(1), 0);
        asInImage1();
        due("count(6): the TAPE is not kept", x.count(6), 20);
        due("drawn(0): the FOG is not kept", x.drawn(0), fogged[0]);
        due("drawn(1): the FOG is not kept", x.drawn(1), fogged[1]);
        due("count(7): what was REFUSED is not kept", x.count(7), 4);
        rule("follows");
        due("back(0)", x.back(0), 0);
        due("count(0)", x.count(0), 3);
        due("count(1)", x.count(1), 2);
        due("count(12)", x.count(12), 1);
        due("call(0): the LAW of then is in FORCE", x.call(0), 0);
        due("cell(1, 1)", x.cell(1, 1), 31);
        due("note(4, -1)", x.note(4, -1), 3);
        due("back(1): IMAGES stay", x.back(1), 0);
        asInImage1();
        due("status()", x.status(), 0);
    }

    private void asInImage1() {
        due("count(0)", x.count(0), 2);
        due("of(0, 0)", x.of(0, 0), 5);
        due("of(0, 5)", x.of(0, 5), 3);
        due("of(1, 6)", x.of(1, 6), 0);
        due("note(0, -1)", x.note(0, -1), 2);
        due("note(0, 1)", x.note(0, 1), 8);
        due("note(4, 0)", x.note(4, 0), 9);
        due("wind(2)", x.wind(2), 2);
        due("count(2)", x.count(2), 1);
        due("guard(1)", x.guard(1), 1);
        due("count(1)", x.count(1), 1);
        due("count(12)", x.count(12), 0);
        due("count(3)", x.count(3), 1);
        due("who(0, 0)", x.who(0, 0), 1);
        due("count(4)", x.count(4), 1);
        due("would(0, 0)", x.would(0, 0), 1);
        due("drive(2)", x.drive(2), 2);
    }

    private void p42() {
        cows(2);
        row(0, 0, 1);
        law("balks");
        x.force(0);
        x.gap(1);
        x.gap(2);
        x.gap(3);
        x.order(1);
        x.ear(1, 1);
        x.ear(1, 1);
        x.feed(1, 1, 1, 1, 1);
        x.wind(9);
        x.order(7);
        x.order(7);
        x.order(1);
        x.order(1);
        x.order(1);
        for (int i = 0; i < 7; i++) {
            x.cow(1, 1, 1, 1);
        }
        for (int i = 0; i < 5; i++) {
            x.law();
        }
        int[] want = {5, 1, 3, 1, 2, 4, 0, 1, 2, 3, 4, 5, 0};
        for (int what = 0; what < want.length; what++) {
            due("count(" + what + ")", x.count(what), want[what]);
        }
        due("count(13)", x.count(13), -1);
        due("count(-1)", x.count(-1), -1);
        x.drive(9);
        x.of(9, 9);
        x.would(9, 9);
        x.slips(9, 9);
        due("count(7): NONE is not REFUSED", x.count(7), 1);
    }

    private void p43() {
        cows(1);
        due("status()", x.status(), 0);
        x.wind(9);
        due("status()", x.status(), -1);
        x.feed(0, 0, 0, 0, 0);
        x.end(0);
        x.clear();
        x.deaf();
        x.drive(0);
        x.who(9, 9);
        x.count(1);
        due("status() behind others", x.status(), -1);
        int[] got = {x.put(9, 0, 0), x.status(), x.left(9, 0), x.status(), x.gap(99), x.status(), x.guard(9),
            x.status(), x.row(0, 9), x.status(), x.law(), x.status(), x.force(9), x.status(), x.order(9), x.status(),
            x.call(0), x.status(), x.lead(9), x.status(), x.cast(9), x.status(), x.ear(99, 0), x.status(),
            x.fog(-9, 0), x.status(), x.image(9), x.status(), x.back(1), x.status(), x.cow(99, 0, 0, 0), x.status()};
        for (int i = 0; i < got.length; i += 2) {
            due("status() behind REFUSED call " + i / 2, got[i + 1], got[i]);
        }
        int[] fine = {x.put(0, 0, 5), x.left(0, 0), x.wind(0), x.gap(1) - 1, x.guard(0), x.force(-1) + 1,
            x.order(0) - 1, x.lead(0), x.cast(0), x.ear(0, 0) - 1, x.fog(0, 0), x.image(0), x.back(0)};
        for (int f : fine) {
            due("a call that is not REFUSED", f == 5 ? 0 : f, 0);
        }
        x.wind(9);
        x.put(0, 0, 5);
        due("status()", x.status(), 0);
        x.wind(9);
        x.force(-1);
        due("status()", x.status(), 0);
        x.wind(9);
        x.fog(0, 0);
        due("status()", x.status(), 0);
        x.wind(9);
        x.cow(1, 1, 1, 1);
        due("status()", x.status(), 0);
        x.wind(9);
        row(1, 1, 1);
        due("status()", x.status(), 0);
    }

    /** What LAWS tell, beside what single promises show of it. */
    private void laws() {
        about = "promise 22";
        String[] steps = {"2 + 3 * 0", "7 / 2 - 1", "[0 - 7] / 2 + 5", "[1 + 1] * [2 - 1]", "10 - 4 - 4",
            "12 / 3 / 2", "2 if 1 < 2", "2 if not 2 < 1", "2 if 1 = 1 or 1 / 0 = 1", "2 if not (1 = 2 and 1 / 0 = 1)",
            "2 if 1 = 2 or 1 = 1 and 2 > 1", "2 if (1 = 1 or 1 = 2) and not not 3 > 2", "2; steps 1 if 1 / 0 = 1 or 1 = 1",
            "2; steps 1 if 1000 * 1000 * 1000 + 1 > 0", "2; steps 1000 * 1000 * 1000 + 1",
            "2; steps 0 - 1000 * 1000 * 1000 - 1", "2; steps 1 / [cow - cow]", "1; steps 2",
            "2; steps 1 if not 1 / 0 = 1", "2 if 1000 * 1000 * 1000 = 1000 * 1000 * 1000",
            "2; steps 1 if 1000 * 1000 * 1000 * 1000 / 1000 > 0", "note - 3", "2 if note = 5 and pace = 1 and fear = 7",
            "2 if age = 10 and left = 4 and called = cow and cow = 0", "2 if wind = 3 and home = 1 and heard = 0",
            "2; balks if 1 = 2; follows if 1 = 2", "2; rank 1; loud 1", "2 if 2 < 2 or 2 > 2 or 2 = 2"};
        for (String step : steps) {
            cows(2);
            x.put(0, 3, 7);
            x.wind(3);
            row(0, 0, 1, 2, 3, 4);
            rule("steps " + step);
            due("call(0) by steps " + step, x.call(0), 2);
        }
        cows(1);
        row(0, 0, 1, 2, 3, 4);
        x.put(0, 1, 1);
        rule("steps 2 if note = 0 - 1");
        due("call(0) of one with a CRACKED bell", x.call(0), 2);
    }

    private void all() {
        int[] single = {1, 2, 3, 4, 5, 6, 7, 8, 9, 10, 11, 12, 13, 14, 15, 16, 17};
        Runnable[] of = {this::p1, this::p2, this::p3, this::p4, this::p5, this::p6, this::p7, this::p8, this::p9,
            this::p10, this::p11, this::p12, this::p13, this::p14, this::p15, this::p16, this::p17};
        for (int i = 0; i < of.length; i++) {
            about = "promise " + single[i];
            of[i].run();
        }
        p18and19();
        about = "promise 20";
        p20();
        about = "promise 21";
        p21();
        about = "promise 22";
        p22();
        about = "promise 23";
        p23();
        p24and25();
        about = "promise 26";
        p26();
        p27and28();
        p29to31();
        about = "promise 32";
        p32();
        about = "promise 33";
        p33();
        about = "promise 34";
        p34();
        p35and36();
        about = "promise 37";
        p37();
        p38and39();
        p40and41();
        about = "promise 42";
        p42();
        about = "promise 43";
        p43();
        laws();
    }

    public static void main(String[] args) {
        new PromisesTest().all();
        end("all promises are kept");
    }
}
