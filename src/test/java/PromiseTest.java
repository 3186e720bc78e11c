/** Each promise by hand-worked cases: ordinary inputs, the edges that the document names, wrong inputs. */
public final class PromiseTest extends Cases {
    public static void main(String[] args) {
        newObject();
        funcs();
        words();
        checkForms();
        checkStack();
        checkWays();
        checkOrder();
        depths();
        clearing();
        turning();
        codeOfSlots();
        codeOfCalls();
        codeOfMoves();
        codeOfCells();
        codeOfJumps();
        leavingOut();
        forwarding();
        opsAsked();
        valuesAsked();
        cells();
        stackArithmetic();
        ends();
        callsWithin();
        stepping();
        beginningAnew();
        looksAndCounts();
        finish("PromiseTest");
    }

    private static void newObject() {
        RegisterMill x = new RegisterMill();
        for (int what = 0; what < 5; what++) {
            due("new count", x.count(what), 0);
            due("new look", x.look(0, what), 0);
            due("new look", x.look(1, what), 0);
        }
        for (int k = 0; k < 64; k++) {
            due("new cell", x.peek(0, k), 0);
            due("new cell", x.peek(1, k), 0);
        }
        due("new word", x.word(0, 0), -1);
        due("new check", x.check(), 7);
        due("new depth", x.depth(0, 0), -1);
        due("new turn", x.turn(5), -1);
        due("new size", x.size(0), -1);
        due("new slots", x.slots(0), -1);
        due("new places", x.places(0), -1);
        due("new value", x.value(0, 0, 0), -1);
        due("new op throws", opThrows(x, 0, 0, 0), true);
        due("new again", x.again(), false);
        due("new runStack", x.runStack(1), -1);
        due("new runRegisters", x.runRegisters(1), -1);
        due("NONE", RegisterMill.NONE, -1);
    }

    private static void funcs() {
        RegisterMill x = new RegisterMill();
        int[][] bad = {{-1, 0}, {-1, -1}, {7, 7}, {7, 10}, {1, 0}, {6, 5}, {0, 11}, {0, -1}, {6, 11},
            {MIN, MAX}, {MAX, MAX}, {0, MAX}, {0, MIN}};
        for (int[] one : bad) {
            due("func(" + one[0] + ", " + one[1] + ")", x.func(one[0], one[1]), -1);
        }
        due("no FUNC by wrong ones", x.count(0), 0);
        int[][] good = {{0, 0}, {0, 10}, {6, 6}, {6, 10}, {1, 1}, {3, 7}};
        for (int i = 0; i < 12; i++) {
            int[] one = good[i % good.length];
            due("func number", x.func(one[0], one[1]), i);
            due("FUNCS", x.count(0), i + 1);
        }
        due("the 13th", x.func(0, 0), -1);
        due("FUNCS", x.count(0), 12);
        RegisterMill y = checked(0, 0, "0 1, 15");
        due("func when checked", y.func(0, 0), -1);
        due("FUNCS when checked", y.count(0), 1);
        RegisterMill z = mill(0, 0, "3");
        due("fault", z.check(), 2);
        due("func behind a fault", z.func(0, 0), 1);
        due("word behind a fault", z.word(0, 0), 0);
    }

    private static void words() {
        RegisterMill x = new RegisterMill();
        x.func(0, 0);
        due("word of any op", x.word(-5, MIN), 0);
        due("word of any op", x.word(MAX, MAX), 1);
        x.func(0, 0);
        due("numbered from 0 in each FUNC", x.word(0, 0), 0);
        for (int i = 1; i < 298; i++) {
            due("word number", x.word(0, i), i);
        }
        due("WORDS in all", x.count(1), 300);
        due("the 301st", x.word(0, 0), -1);
        x.func(0, 0);
        due("the 301st of a new FUNC", x.word(0, 0), -1);
        due("WORDS in all", x.count(1), 300);
        RegisterMill y = checked(0, 0, "0 1, 15");
        due("word when checked", y.word(15, 0), -1);
        due("WORDS when checked", y.count(1), 2);
    }

    private static void dueFault(int args, int locals, String text, int kind, int word) {
        RegisterMill x = mill(args, locals, text);
        due("fault of " + text, x.check(), kind == 0 ? 0 : kind + 128 * word);
        due("checked after " + text, x.count(2), kind == 0 ? 1 : 0);
        due("asked again: " + text, x.check(), kind == 0 ? 0 : kind + 128 * word);
    }

    private static void checkForms() {
        dueFault(0, 0, "-1", 1, 0);
        dueFault(0, 0, "18", 1, 0);
        dueFault(0, 0, "2147483647", 1, 0);
        dueFault(0, 0, "0 1, -2147483648", 1, 1);
        dueFault(0, 2, "1 -1", 1, 0);
        dueFault(0, 2, "1 2, 15", 1, 0);
        dueFault(0, 2, "1 1, 15", 0, 0);
        dueFault(0, 2, "0 1, 2 2", 1, 1);
        dueFault(0, 2, "0 1, 2 1, 12 0", 0, 0);
        dueFault(0, 0, "1 0", 1, 0);
        dueFault(0, 0, "12 -1", 1, 0);
        dueFault(0, 0, "12 1", 1, 0);
        dueFault(0, 0, "0 1, 13 2", 1, 1);
        dueFault(0, 0, "0 1, 13 -1", 1, 1);
        dueFault(0, 0, "14 -1", 1, 0);
        dueFault(0, 0, "14 1", 1, 0);
        dueFault(0, 0, "14 0, 15 99", 0, 0);
        dueFault(0, 0, "0 1, 9 -7, 3 99, 15 -1", 0, 0);
    }

    private static void checkStack() {
        for (int op : new int[] {2, 9, 11, 13, 15, 16}) {
            dueFault(0, 1, op + " 0", 2, 0);
        }
        for (int op : new int[] {3, 4, 5, 6, 7, 8, 10, 17}) {
            dueFault(0, 1, op + " 0", 2, 0);
            dueFault(0, 1, "0 1, " + op + " 0", 2, 1);
        }
        dueFault(2, 2, "0 1, 14 0", 2, 1);
        dueFault(2, 2, "0 1, 0 1, 14 0, 15", 0, 0);
        String eleven = "0,0,0,0,0,0,0,0,0,0,0";
        dueFault(0, 1, eleven + ",0,15", 0, 0);
        dueFault(0, 1, eleven + ",0,0", 3, 12);
        dueFault(0, 1, eleven + ",1 0,1 0", 3, 12);
        dueFault(0, 1, eleven + ",9,9", 3, 12);
        dueFault(0, 1, eleven + ",14 0,14 0", 3, 12);
        dueFault(0, 1, eleven + ",9,10,15", 0, 0);
        dueFault(1, 1, eleven + ",0,14 0,15", 0, 0);
        // Form is asked ahead of the STACK, the STACK ahead of what comes behind.
        dueFault(0, 0, "2 0", 1, 0);
        dueFault(0, 0, "13 5", 1, 0);
        dueFault(0, 0, eleven + ",0,0", 3, 12);
    }

    private static void checkWays() {
        dueFault(0, 0, "0 1", 4, 0);
        dueFault(0, 0, "0 1, 13 0", 4, 1);
        dueFault(0, 0, "0 1, 11", 4, 1);
        dueFault(0, 0, "12 0", 0, 0);
        dueFault(0, 0, "0 1, 12 0", 5, 1);
        dueFault(0, 0, "0 1, 0 1, 13 0, 15", 5, 2);
        // Two ways come together with other DEPTHS; the later one gone through is at fault.
        dueFault(0, 0, "0 1, 13 3, 0 2, 0 3, 15", 5, 2);
        // The last WORD goes nowhere: kind 4 comes ahead of kind 5.
        dueFault(0, 0, "0 1, 0 1, 13 0", 4, 2);
        // What nobody reaches is not looked at.
        dueFault(0, 0, "0 1, 15, 99, 3, 12 -4, 1 77", 0, 0);
        dueFault(0, 0, "12 3, 99, 99, 0 1, 15", 0, 0);
    }

    private static void checkOrder() {
        // From 12 the way leads back: WORD 1 is gone through ahead of WORD 5.
        dueFault(0, 0, "12 3, 99, 15, 0 1, 13 1, 98", 1, 1);
        RegisterMill x = mill(0, 0, "0 1, 15");
        x.func(1, 1);
        addWords(x, "1 0, 3");
        x.func(0, 0);
        addWords(x, "99");
        due("FUNC by FUNC", x.check(), 2 + 8 * 1 + 128 * 1);
        RegisterMill y = mill(0, 0, "99");
        y.func(0, 0);
        y.func(0, 0);
        due("no WORDS comes ahead", y.check(), 6 + 8 * 1);
        addWords(y, "15");
        due("still", y.check(), 6 + 8 * 1);
        RegisterMill z = new RegisterMill();
        for (int f = 0; f < 12; f++) {
            z.func(0, 0);
            if (f < 11) {
                addWords(z, "14 11, 15");
            }
        }
        due("the last has none", z.check(), 6 + 8 * 11);
        addWords(z, "14 12, 15");
        due("the last calls none", z.check(), 1 + 8 * 11);
        RegisterMill late = mill(0, 0, "0 1, 14 1, 15");
        due("a FUNC that is not there yet", late.check(), 1 + 128);
        late.func(1, 1);
        addWords(late, "1 0, 15");
        due("and then is", late.check(), 0);
        RegisterMill longest = new RegisterMill();
        longest.func(0, 0);
        for (int i = 0; i < 149; i++) {
            addWords(longest, "0 1, 11");
        }
        addWords(longest, "0 1, 99");
        due("a fault in the last WORD", longest.check(), 1 + 128 * 299);
    }

    private static void depths() {
        RegisterMill x = mill(0, 1, "0 1, 9, 10, 13 6, 15, 99, 11, 1 0, 16, 15");
        due("depth ahead of check", x.depth(0, 0), -1);
        due("check", x.check(), 0);
        int[] want = {0, 1, 2, 2, 1, -1, 1, 0, 1, 1};
        for (int w = 0; w < want.length; w++) {
            due("depth of " + w, x.depth(0, w), want[w]);
        }
        due("depth", x.depth(0, -1), -1);
        due("depth", x.depth(0, 10), -1);
        due("depth", x.depth(-1, 0), -1);
        due("depth", x.depth(1, 0), -1);
        due("depth", x.depth(MAX, MIN), -1);
        RegisterMill y = mill(0, 0, "0 1, 3");
        due("fault", y.check(), 2 + 128);
        due("depth behind a fault", y.depth(0, 0), -1);
        RegisterMill z = checked(0, 0, "0 1, 15");
        z.clear();
        due("depth behind clear", z.depth(0, 0), -1);
    }

    private static void clearing() {
        RegisterMill x = checked(0, 0, "0 7, 0 3, 17, 0 5, 15");
        x.turn(4);
        x.cell(9, 99);
        x.runStack(2);
        dueRun("ahead of clear", x, 1, 5);
        x.clear();
        for (int what = 0; what < 5; what++) {
            due("count behind clear", x.count(what), 0);
            due("look behind clear", x.look(0, what), 0);
            due("look behind clear", x.look(1, what), 0);
        }
        for (int k : new int[] {3, 9}) {
            due("cell behind clear", x.peek(0, k), 0);
            due("cell behind clear", x.peek(1, k), 0);
        }
        due("op behind clear", opThrows(x, 0, 0, 0), true);
        due("size behind clear", x.size(0), -1);
        due("again behind clear", x.again(), false);
        due("runRegisters behind clear", x.runRegisters(5), -1);
        due("func behind clear", x.func(0, 0), 0);
        due("word behind clear", x.word(0, 4), 0);
        due("word behind clear", x.word(15, 0), 1);
        due("check behind clear", x.check(), 0);
        due("not turned behind clear", x.runRegisters(5), -1);
        due("turn behind clear", x.turn(16), 2);
        dueRun("behind clear", x, 1, 4);
    }

    private static void turning() {
        RegisterMill x = mill(0, 0, "0 1, 15");
        due("turn unchecked", x.turn(5), -1);
        due("check", x.check(), 0);
        for (int r : new int[] {MIN, -1, 0, 2, 17, MAX}) {
            due("turn " + r, x.turn(r), -1);
        }
        due("not turned", x.count(3), 0);
        for (int r = 3; r <= 16; r++) {
            due("turn " + r, x.turn(r), 2);
            due("R", x.count(3), r);
        }
        x.runStack(1);
        x.runRegisters(2);
        due("a wrong R changes nothing", x.turn(17), -1);
        due("R stays", x.count(3), 16);
        due("the stack machine stays", x.look(0, 2), 1);
        due("the register machine stays", x.look(1, 0), 1);
        due("its code stays", code(x, 0), "SET 0 1; TELL 0");
        due("turn", x.turn(3), 2);
        due("the stack machine begins anew", x.look(0, 2), 0);
        due("the register machine begins anew", x.look(1, 0), 0);
        due("what was told goes", x.look(1, 1), 0);
    }

    private static void codeOfSlots() {
        RegisterMill x = checked(0, 0, "0 7, 0 2, 10, 4, 15");
        due("turn", x.turn(3), 12);
        due("v0", span(x, 0, 0), "0..4 r-1 s0");
        due("v1", span(x, 0, 1), "1..3 r0 s-1");
        due("SWAP with a SLOT", code(x, 0),
            "SET 1 7; SAVE 0 1; SET 0 2; MOVE 1 0; LOAD 2 0; MOVE 0 2; SAVE 0 1; "
            + "LOAD 1 0; WORK 1 1 0 4; SAVE 0 1; LOAD 1 0; TELL 1");
        dueRun("SWAP with a SLOT", x, 1, -5);
        due("turn", x.turn(5), 5);
        due("SWAP of registers", code(x, 0), "SET 0 7; SET 1 2; SWAP 1 0; WORK 0 0 1 4; TELL 0");
        dueRun("SWAP of registers", x, 1, -5);

        // Three end at one place: the greatest number gets the SLOT.
        RegisterMill y = checked(0, 0, "0 1, 0 2, 0 3, 17, 15");
        due("turn", y.turn(3), 9);
        due("v0", span(y, 0, 0), "0..4 r-1 s0");
        due("v1", span(y, 0, 1), "1..3 r0 s-1");
        due("v2", span(y, 0, 2), "2..3 r-1 s1");
        due("SLOTS", y.slots(0), 2);
        due("first read into A, second a register", code(y, 0),
            "SET 1 1; SAVE 0 1; SET 0 2; SET 1 3; SAVE 1 1; LOAD 1 1; WRITE 1 0; LOAD 1 0; TELL 1");
        dueRun("SLOTS", y, 1, 1);
    }

    private static void codeOfCalls() {
        RegisterMill x = mill(0, 0, "0 10, 0 20, 0 30, 14 1, 15");
        x.func(3, 4);
        addWords(x, "1 0, 1 1, 1 2, 5, 4, 1 3, 3, 15");
        due("check", x.check(), 0);
        due("turn", x.turn(3), 31);
        due("main", code(x, 0),
            "SET 1 10; SAVE 0 1; SET 0 20; SET 1 30; SAVE 1 1; LOAD 1 0; PASS 0 1; PASS 1 0; "
            + "LOAD 1 1; PASS 2 1; CALL 1; GET 1; SAVE 0 1; LOAD 1 0; TELL 1");
        due("called", code(x, 1),
            "TAKE 1 0; SAVE 0 1; TAKE 0 1; TAKE 1 2; SAVE 1 1; SET 1 0; SAVE 2 1; "
            + "LOAD 2 1; WORK 1 0 2 5; SAVE 3 1; LOAD 1 0; LOAD 2 3; WORK 0 1 2 4; "
            + "LOAD 2 2; WORK 0 0 2 3; TELL 0");
        due("places", x.places(1), 4);
        due("SLOTS", x.slots(1), 4);
        String[] want = {"0..1 r-1 s0", "0..0 r0 s-1", "0..0 r-1 s1", "0..2 r-1 s2", "1..3 r0 s-1",
            "0..1 r-1 s3", "-1..-1 r-1 s-1"};
        for (int v = 0; v < want.length; v++) {
            due("value " + v, span(x, 1, v), want[v]);
        }
        due("ops in all", x.count(4), 31);
        dueRun("CALL", x, 1, -590);
        due("turn", x.turn(16), 17);
        dueRun("CALL", x, 1, -590);
        due("main with registers", code(x, 0),
            "SET 0 10; SET 1 20; SET 2 30; PASS 0 0; PASS 1 1; PASS 2 2; CALL 1; GET 0; TELL 0");

        // What is told to nobody is got all the same.
        RegisterMill y = mill(0, 0, "14 1, 11, 0 4, 15");
        y.func(0, 0);
        addWords(y, "0 9, 15");
        due("check", y.check(), 0);
        due("turn", y.turn(4), 6);
        due("unused answer", code(y, 0), "CALL 1; GET 0; SET 0 4; TELL 0");
        due("its SPAN", span(y, 0, 0), "0..2 r0 s-1");
        dueRun("unused answer", y, 1, 4);
    }

    private static void codeOfMoves() {
        RegisterMill x = checked(0, 2, "0 1, 2 0, 0 2, 2 1, 12 5, 1 0, 1 1, 3, 15");
        due("turn", x.turn(3), 13);
        due("slot to register, slot to slot", code(x, 0),
            "SET 1 1; SAVE 0 1; LOAD 0 0; SET 1 2; SAVE 0 1; LOAD 1 0; SAVE 1 1; GO 8; "
            + "LOAD 2 1; WORK 1 0 2 3; SAVE 0 1; LOAD 1 0; TELL 1");
        dueRun("slot to slot", x, 1, 3);
        RegisterMill y = checked(0, 1, "0 5, 2 0, 12 3, 1 0, 15");
        due("turn", y.turn(3), 5);
        due("register to slot", code(y, 0), "SET 0 5; SAVE 0 0; GO 3; LOAD 1 0; TELL 1");
        dueRun("register to slot", y, 1, 5);
        due("turn", y.turn(4), 4);
        due("register to register", code(y, 0), "SET 0 5; MOVE 1 0; GO 3; TELL 1");
        dueRun("register to register", y, 1, 5);
    }

    private static void codeOfCells() {
        RegisterMill x = checked(0, 0, "0 9, 0 4, 17, 0 4, 16, 15");
        due("turn", x.turn(3), 12);
        due("READ, WRITE with SLOTS", code(x, 0),
            "SET 1 9; SAVE 0 1; SET 0 4; LOAD 2 0; WRITE 0 2; SET 1 4; SAVE 0 1; "
            + "LOAD 1 0; READ 1 1; SAVE 0 1; LOAD 1 0; TELL 1");
        dueRun("cells", x, 1, 9);
        due("cell", x.peek(0, 4), 9);
        due("cell", x.peek(1, 4), 9);
        due("turn", x.turn(4), 6);
        due("READ, WRITE", code(x, 0), "SET 0 9; SET 1 4; WRITE 1 0; SET 0 4; READ 0 0; TELL 0");
    }

    private static void codeOfJumps() {
        // A jump to the first place leaves the entry out.
        RegisterMill x = checked(0, 1, "1 0, 13 0, 1 0, 15");
        due("turn", x.turn(3), 3);
        due("jump behind the entry", code(x, 0), "SET 0 0; IFNOT 0 1; TELL 0");
        due("goes on", x.runRegisters(9), 0);
        due("goes on", x.runStack(9), 0);
        // A jump to a WORD that became nothing, and to a place that was left out.
        RegisterMill y = checked(0, 0, "0 1, 12 4, 99, 15, 9, 11, 15");
        due("turn", y.turn(3), 3);
        due("jump on", code(y, 0), "SET 0 1; GO 2; TELL 0");
        dueRun("jump on", y, 1, 1);
        RegisterMill z = checked(0, 0, "0 1, 0 0, 13 4, 12 4, 11, 0 6, 15");
        due("turn", z.turn(3), 5);
        due("two jumps on", code(z, 0), "SET 0 0; IFNOT 0 3; GO 3; SET 0 6; TELL 0");
        dueRun("two jumps on", z, 1, 6);
        RegisterMill round = checked(0, 0, "12 0");
        due("turn", round.turn(3), 1);
        due("GO to itself", code(round, 0), "GO 0");
        due("runs", round.runRegisters(20000), 0);
        due("STEPS", round.look(1, 2), 20000);
        // The first place is the only jump to where a block begins; the table is empty there.
        RegisterMill first = checked(0, 1, "12 3, 0 9, 2 0, 1 0, 13 1, 1 0, 15");
        due("turn", first.turn(3), 9);
        due("a block behind the first jump", code(first, 0),
            "SET 1 0; SAVE 0 1; GO 5; SET 0 9; SAVE 0 0; LOAD 1 0; IFNOT 1 3; LOAD 1 0; TELL 1");
        dueRun("a block behind the first jump", first, 1, 9);
        due("turn", first.turn(4), 6);
        due("a block behind the first jump", code(first, 0),
            "SET 0 0; GO 4; SET 1 9; MOVE 0 1; IFNOT 0 2; TELL 0");
        RegisterMill op0 = checked(0, 0, "12 5, 0 1, 0 2, 3, 15, 0 0, 13 1, 0 3, 15");
        due("turn", op0.turn(3), 17);
        due("the first op jumps", code(op0, 0),
            "GO 9; SET 1 1; SAVE 0 1; SET 0 2; LOAD 1 0; WORK 1 1 0 3; SAVE 0 1; LOAD 1 0; TELL 1; "
            + "SET 1 0; SAVE 0 1; LOAD 1 0; IFNOT 1 1; SET 1 3; SAVE 0 1; LOAD 1 0; TELL 1");
        dueRun("the first op jumps", op0, 1, 3);
        // Sums 5 .. 1 in a loop, with every number of SLOTS.
        RegisterMill count = checked(0, 2,
            "0 5, 2 0, 1 0, 13 13, 1 1, 1 0, 3, 2 1, 1 0, 0 1, 4, 2 0, 12 2, 1 1, 15");
        for (int r = 3; r <= 6; r++) {
            due("turn", count.turn(r) > 0, true);
            dueRun("loop", count, 1, 15);
        }
    }

    private static void leavingOut() {
        RegisterMill x = checked(0, 1, "0 5, 2 0, 0 7, 15");
        due("turn", x.turn(3), 2);
        due("in two rounds", code(x, 0), "SET 0 7; TELL 0");
        due("places", x.places(0), 2);
        due("v0 has no SPAN", span(x, 0, 0), "-1..-1 r-1 s-1");
        // READ, WORK and CALL stay though nobody asks for what they write.
        RegisterMill y = checked(0, 0, "0 1, 0 0, 6, 11, 0 64, 16, 11, 0 3, 15");
        due("turn", y.turn(5), 7);
        dueRun("a trap stays", y, 2, 0);
        // Live through a jump back only.
        RegisterMill z = checked(1, 1, "1 0, 13 5, 0 0, 2 0, 12 0, 0 8, 15");
        due("turn", z.turn(4), 7);
        due("live through a jump back", code(z, 0),
            "TAKE 0 0; IFNOT 0 5; SET 1 0; MOVE 0 1; GO 1; SET 1 8; TELL 1");
        due("its SPAN", span(z, 0, 0), "0..3 r0 s-1");
        dueRun("live through a jump back", z, 1, 8);
    }

    private static void forwarding() {
        // The table tells what a copy's copy copies; a write to it ends that.
        RegisterMill x = checked(1, 2, "1 0, 2 1, 0 3, 2 0, 1 1, 15");
        due("turn", x.turn(6), 3);
        due("a write to the source", code(x, 0), "TAKE 0 0; MOVE 1 0; TELL 1");
        dueRun("a write to the source", x, 1, 0);
        // SWAP is not forwarded, and both that it writes are forgotten.
        RegisterMill y = checked(0, 2, "0 4, 2 0, 0 9, 2 1, 1 0, 1 1, 10, 4, 15");
        due("turn", y.turn(8), 9);
        due("SWAP", code(y, 0), "SET 0 4; MOVE 1 0; SET 0 9; MOVE 2 0; MOVE 0 1; MOVE 1 2; "
            + "SWAP 1 0; WORK 0 0 1 4; TELL 0");
        dueRun("SWAP", y, 1, 5);
        // Blocks end at where a jump goes: ahead of WORD 2 the table is empty.
        RegisterMill z = checked(0, 1, "0 3, 2 0, 1 0, 13 2, 0 8, 15");
        due("turn", z.turn(8), 5);
        due("block ends ahead of a goal", code(z, 0), "SET 0 3; MOVE 1 0; IFNOT 1 2; SET 0 8; TELL 0");
        dueRun("block ends ahead of a goal", z, 1, 8);
        due("CALL forwarded", callForwarded(), "TAKE 0 0; PASS 0 0; PASS 1 0; CALL 0; GET 1; TELL 1");
    }

    private static String callForwarded() {
        RegisterMill x = checked(2, 2, "1 0, 9, 14 0, 15");
        x.turn(5);
        return code(x, 0);
    }

    private static void opsAsked() {
        RegisterMill x = checked(0, 0, "0 -9, 15");
        due("op not turned", opThrows(x, 0, 0, 0), true);
        x.turn(3);
        int[] whole = {0, 0, -9, 0, 0};
        for (int what = 0; what < 5; what++) {
            due("SET", x.op(0, 0, what), whole[what]);
        }
        int[][] bad = {{-1, 0, 0}, {1, 0, 0}, {0, -1, 0}, {0, 2, 0}, {0, 0, -1}, {0, 0, 5},
            {MAX, 0, 0}, {MIN, 0, 0}, {0, MAX, 0}, {0, MIN, 0}, {0, 0, MAX}, {0, 0, MIN}};
        for (int[] one : bad) {
            due("op throws", opThrows(x, one[0], one[1], one[2]), true);
        }
        due("size", x.size(0), 2);
        for (int func : new int[] {-1, 1, 12, MAX, MIN}) {
            due("size", x.size(func), -1);
            due("slots", x.slots(func), -1);
            due("places", x.places(func), -1);
            due("value", x.value(func, 0, 0), -1);
        }
        due("places", x.places(0), 2);
        due("slots", x.slots(0), 0);
    }

    private static void valuesAsked() {
        RegisterMill x = checked(0, 10, "0,0,0,0,0,0,0,0,0,0,0,0,17,17,17,17,17,3,15");
        due("value not turned", x.value(0, 10, 0), -1);
        due("slots not turned", x.slots(0), -1);
        due("places not turned", x.places(0), -1);
        due("size not turned", x.size(0), -1);
        x.turn(16);
        due("the highest", span(x, 0, 21), "11..12 r11 s-1");
        due("the lowest on the STACK", x.value(0, 10, 0), 0);
        due("a LOCAL that nobody uses", x.value(0, 0, 0), -1);
        for (int v : new int[] {-1, 22, 23, MAX, MIN}) {
            for (int what = 0; what < 4; what++) {
                due("value", x.value(0, v, what), -1);
            }
        }
        for (int what : new int[] {-1, 4, MAX, MIN}) {
            due("value", x.value(0, 10, what), -1);
        }
        due("places", x.places(0), 19);
        due("turn with few", x.turn(3) > 19, true);
        due("SLOTS", x.slots(0), 11);
        dueRun("all on the STACK", x, 1, 0);
    }

    private static void cells() {
        RegisterMill x = new RegisterMill();
        due("cell", x.cell(0, 5), true);
        due("cell", x.cell(63, MIN), true);
        for (int k : new int[] {-1, 64, MAX, MIN}) {
            due("cell " + k, x.cell(k, 1), false);
            due("peek " + k, peekThrows(x, 0, k), true);
            due("peek " + k, peekThrows(x, 1, k), true);
        }
        for (int machine : new int[] {-1, 2, MAX, MIN}) {
            due("peek of machine " + machine, peekThrows(x, machine, 0), true);
        }
        for (int machine = 0; machine < 2; machine++) {
            due("peek", x.peek(machine, 0), 5);
            due("peek", x.peek(machine, 63), MIN);
            due("peek", x.peek(machine, 1), 0);
        }
        RegisterMill y = checked(0, 0, "0 63, 16, 0 1, 3, 0 63, 17, 0 63, 16, 15");
        y.turn(4);
        y.cell(63, 40);
        due("run", y.runStack(99), 1);
        due("own MEMORY", y.peek(0, 63), 41);
        due("own MEMORY", y.peek(1, 63), 40);
        due("again", y.again(), true);
        dueRunOnce(y);
    }

    private static void dueRunOnce(RegisterMill y) {
        due("run", y.runStack(99), 1);
        due("run", y.runRegisters(99), 1);
        due("MEMORIES stay as they are", y.look(0, 1), 42);
        due("MEMORIES stay as they are", y.look(1, 1), 41);
        y.turn(5);
        due("MEMORY behind turn", y.peek(0, 63), 42);
        due("MEMORY behind turn", y.peek(1, 63), 41);
    }

    private static void dueWork(int t, int op, int s, int want) {
        RegisterMill x = checked(0, 0, "0 " + t + ", 0 " + s + ", " + op + ", 15");
        x.turn(3);
        dueRun(t + " op " + op + " " + s, x, 1, want);
        x.turn(16);
        dueRun(t + " op " + op + " " + s, x, 1, want);
    }

    private static void stackArithmetic() {
        dueWork(7, 3, 5, 12);
        dueWork(MAX, 3, 1, MIN);
        dueWork(7, 4, 5, 2);
        dueWork(MIN, 4, 1, MAX);
        dueWork(-7, 5, 5, -35);
        dueWork(65536, 5, 65536, 0);
        dueWork(7, 6, 2, 3);
        dueWork(-7, 6, 2, -3);
        dueWork(7, 6, -2, -3);
        dueWork(MIN, 6, -1, MIN);
        dueWork(3, 7, 4, 1);
        dueWork(4, 7, 4, 0);
        dueWork(MIN, 7, MAX, 1);
        dueWork(4, 8, 4, 1);
        dueWork(4, 8, 5, 0);
    }

    private static void dueTrap(String text, int end, int stackSteps) {
        RegisterMill x = checked(0, 0, text);
        for (int r : new int[] {3, 9}) {
            x.turn(r);
            dueRun(text, x, end, 0);
            due("a trap's STEP is counted", x.look(0, 2), stackSteps);
            due("no calls", x.look(0, 4), 0);
            due("no calls", x.look(1, 4), 0);
            due("ended stays so", x.runStack(5), end);
            due("ended stays so", x.runRegisters(5), end);
            due("no STEPS more", x.look(0, 2), stackSteps);
        }
    }

    private static void ends() {
        dueTrap("0 1, 0 0, 6, 15", 2, 3);
        dueTrap("0 64, 16, 15", 3, 2);
        dueTrap("0 -1, 16, 15", 3, 2);
        dueTrap("0 5, 0 64, 17, 0 1, 15", 3, 3);
        dueTrap("0 5, 0 -2147483648, 17, 0 1, 15", 3, 3);
        dueTrap("14 0, 15", 4, 30);
        RegisterMill x = mill(0, 0, "0 28, 14 1, 15");
        x.func(1, 1);
        addWords(x, "1 0, 13 7, 1 0, 0 1, 4, 14 1, 15, 0 77, 15");
        due("check", x.check(), 0);
        for (int r = 3; r < 7; r++) {
            x.turn(r);
            dueRun("30 calls within one another", x, 1, 77);
            due("calls", x.look(0, 3), 30);
        }
        RegisterMill y = mill(0, 0, "0 29, 14 1, 15");
        y.func(1, 1);
        addWords(y, "1 0, 13 7, 1 0, 0 1, 4, 14 1, 15, 0 77, 15");
        due("check", y.check(), 0);
        y.turn(3);
        dueRun("31 calls within one another", y, 4, 0);
        due("the 31st is not made", y.look(1, 3), 30);
    }

    private static void callsWithin() {
        // What a call leaves on its STACK goes with it.
        RegisterMill x = mill(0, 0, "0 10, 14 1, 3, 15");
        x.func(0, 2);
        addWords(x, "0 1, 0 3, 0 2, 15");
        due("check", x.check(), 0);
        x.turn(3);
        dueRun("left on the STACK", x, 1, 12);
        // LOCALS are 0 in each new call.
        RegisterMill y = mill(0, 0, "14 1, 14 1, 3, 15");
        y.func(0, 1);
        addWords(y, "1 0, 0 5, 3, 2 0, 1 0, 15");
        due("check", y.check(), 0);
        y.turn(3);
        dueRun("LOCALS anew", y, 1, 10);
        due("calls", y.look(1, 3), 3);
        // A call of main by main is a call like others; the first one's end is the end.
        RegisterMill z = checked(0, 0, "0 0, 16, 13 5, 0 7, 15, 0 1, 0 0, 17, 14 0, 0 1, 3, 15");
        z.turn(4);
        dueRun("main within main", z, 1, 8);
        due("calls", z.look(0, 3), 2);
        // Main's ARGS are 0, ahead of the first run and of later ones.
        RegisterMill m = checked(2, 2, "1 0, 1 1, 3, 13 6, 0 3, 15, 0 4, 0 5, 14 0, 15");
        for (int i = 0; i < 3; i++) {
            m.turn(3 + i);
            dueRun("main's ARGS", m, 1, 3);
        }
        // Factorial.
        RegisterMill f = mill(0, 0, "0 10, 14 1, 15");
        f.func(1, 1);
        addWords(f, "1 0, 13 8, 1 0, 1 0, 0 1, 4, 14 1, 12 10, 0 1, 15, 5, 15");
        due("check", f.check(), 0);
        for (int r = 3; r <= 16; r++) {
            f.turn(r);
            dueRun("factorial", f, 1, 3628800);
        }
        // Six ARGS, in order.
        RegisterMill s = mill(0, 0, "0 1, 0 2, 0 3, 0 4, 0 5, 0 6, 14 1, 15");
        s.func(6, 6);
        addWords(s, "1 0, 0 10, 5, 1 1, 3, 0 10, 5, 1 2, 3, 0 10, 5, 1 3, 3, "
            + "0 10, 5, 1 4, 3, 0 10, 5, 1 5, 3, 15");
        due("check", s.check(), 0);
        for (int r = 3; r <= 16; r++) {
            s.turn(r);
            dueRun("six ARGS", s, 1, 123456);
        }
    }

    private static void stepping() {
        RegisterMill x = mill(0, 0, "0 3, 14 1, 15");
        x.func(1, 1);
        addWords(x, "1 0, 15");
        due("not checked", x.runStack(1), -1);
        due("check", x.check(), 0);
        due("not turned", x.runRegisters(1), -1);
        for (int n : new int[] {0, -1, 20001, MAX, MIN}) {
            due("runStack " + n, x.runStack(n), -1);
        }
        due("no STEP", x.look(0, 2), 0);
        due("no call", x.look(0, 3), 0);
        int[] nested = {1, 2, 2, 1, 0};
        int[] calls = {1, 2, 2, 2, 2};
        for (int i = 0; i < 5; i++) {
            due("a STEP", x.runStack(1), i == 4 ? 1 : 0);
            due("STEPS", x.look(0, 2), i + 1);
            due("calls", x.look(0, 3), calls[i]);
            due("within", x.look(0, 4), nested[i]);
            due("end", x.look(0, 0), i == 4 ? 1 : 0);
            due("told", x.look(0, 1), i == 4 ? 3 : 0);
        }
        x.turn(5);
        for (int n : new int[] {0, -1, 20001, MAX, MIN}) {
            due("runRegisters " + n, x.runRegisters(n), -1);
        }
        // SET PASS CALL | TAKE TELL | GET TELL
        int[] within = {1, 1, 2, 2, 1, 1, 0};
        for (int i = 0; i < 7; i++) {
            due("a STEP", x.runRegisters(1), i == 6 ? 1 : 0);
            due("STEPS", x.look(1, 2), i + 1);
            due("within", x.look(1, 4), within[i]);
        }
        due("told", x.look(1, 1), 3);
        due("the other machine stands", x.look(0, 2), 0);
    }

    private static void beginningAnew() {
        RegisterMill x = mill(0, 0, "0 3, 15");
        due("again unchecked", x.again(), false);
        due("check", x.check(), 0);
        due("run", x.runStack(20000), 1);
        due("check again leaves it", x.check(), 0);
        due("end stays", x.look(0, 0), 1);
        due("again when not turned", x.again(), true);
        for (int what = 0; what < 5; what++) {
            due("look behind again", x.look(0, what), 0);
        }
        x.turn(3);
        dueRun("run", x, 1, 3);
        due("again", x.again(), true);
        for (int what = 0; what < 5; what++) {
            due("look behind again", x.look(0, what), 0);
            due("look behind again", x.look(1, what), 0);
        }
        due("R stays", x.count(3), 3);
        dueRun("again", x, 1, 3);
    }

    private static void looksAndCounts() {
        RegisterMill x = checked(0, 0, "0 3, 15");
        for (int bad : new int[] {-1, 5, MAX, MIN}) {
            due("look", x.look(0, bad), -1);
            due("look", x.look(1, bad), -1);
            due("count", x.count(bad), -1);
        }
        for (int bad : new int[] {-1, 2, MAX, MIN}) {
            due("look of machine " + bad, x.look(bad, 0), -1);
        }
        int[] ahead = {1, 2, 1, 0, 0};
        for (int what = 0; what < 5; what++) {
            due("count", x.count(what), ahead[what]);
        }
        x.turn(7);
        int[] behind = {1, 2, 1, 7, 2};
        for (int what = 0; what < 5; what++) {
            due("count", x.count(what), behind[what]);
        }
    }
}
