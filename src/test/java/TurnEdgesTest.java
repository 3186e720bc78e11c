/** Boundary cases of promises 7 to 12: few and many registers, SPANS that meet, SLOTS, jumps to what went. */
public final class TurnEdgesTest extends Cases {
    private static final int[] FAR = {MIN, -2, -1, 12, 13, MAX};

    public static void main(String[] args) {
        fewestAndMostRegisters();
        turnWhenNotChecked();
        refusedTurnLeavesAll();
        refusedFirstTurnLeavesItUnturned();
        turnAnew();
        opsInAll();
        everyNumberOfRegisters();
        allValuesAtOnce();
        spareRegisters();
        spanThatEndsAtAFirstPlace();
        spanThatEndsAheadOfAFirstPlace();
        leastFreeRegister();
        spansThatBeginAndEndAtOnePlace();
        argsThatEndAtOnePlace();
        spanOfOnePlace();
        slotForGood();
        swapFirstInASlot();
        swapBothInSlots();
        swapAboveTheLowest();
        twoReadsOfOneSlot();
        moveToItself();
        moveToItselfForgets();
        copiesOfCopies();
        tableEmptyBehindIfnot();
        wordsWithoutDepth();
        jumpToDropped();
        jumpToLeftOut();
        jumpToTheFirst();
        leftOutRoundByRound();
        whatIsNeverLeftOut();
        liveOnOneWayOnly();
        liveBehindTell();
        liveBehindGo();
        liveThroughAJumpBack();
        liveAnewInEachRound();
        entryOfAllLocals();
        entryOfNone();
        entryOfTheOverwritten();
        callOfNoArgs();
        callOfSixArgs();
        longestFunc();
        opsOfTheEdge();
        partsOfAnOp();
        funcsOfTheEdge();
        valuesOfTheEdge();
        valuesOfAnEarlierProgram();
        placesOfTheEdge();
        slotsOfTheEdge();
        notTurned();
        finish("TurnEdgesTest");
    }

    private static void fewestAndMostRegisters() {
        RegisterMill x = checked(0, 0, "0 1, 15");
        for (int r = -3; r <= 20; r++) {
            boolean taken = r >= 3 && r <= 16;
            x.clear();
            addFunc(x, 0, 0, "0 1, 15");
            x.check();
            due("turn(" + r + ")", x.turn(r), taken ? 2 : -1);
            due("R", x.count(3), taken ? r : 0);
            due("ops", x.count(4), taken ? 2 : 0);
        }
        for (int r : new int[] {MIN, -65533, 65539, MAX}) {
            due("turn(" + r + ")", x.turn(r), -1);
        }
    }

    private static void turnWhenNotChecked() {
        RegisterMill x = new RegisterMill();
        due("no FUNC", x.turn(3), -1);
        addFunc(x, 0, 0, "0 1");
        due("ahead of check", x.turn(3), -1);
        x.check();
        due("a fault", x.turn(3), -1);
        due("R", x.count(3), 0);
        addWords(x, "15");
        due("not checked yet", x.turn(16), -1);
        due("check", x.check(), 0);
        due("checked", x.turn(16), 2);
        x.clear();
        due("cleared", x.turn(16), -1);
        due("R", x.count(3), 0);
    }

    private static void refusedTurnLeavesAll() {
        RegisterMill x = turned(3, 0, 0, "0 7, 0 2, 3, 0 5, 17, 12 0");
        String ahead = code(x, 0);
        x.runStack(3);
        x.runRegisters(4);
        for (int r : new int[] {MIN, 2, 17, MAX}) {
            due("refused", x.turn(r), -1);
            due("R", x.count(3), 3);
            due("ops", x.count(4), x.size(0));
            due("code", code(x, 0), ahead);
            due("stack machine", x.look(0, 2), 3);
            due("register machine", x.look(1, 2), 4);
            due("within", x.look(0, 4), 1);
            due("within", x.look(1, 4), 1);
        }
        x.runStack(2);
        due("it goes on", x.peek(0, 5), 9);
    }

    private static void refusedFirstTurnLeavesItUnturned() {
        RegisterMill x = checked(0, 0, "0 7, 15");
        x.runStack(1);
        due("refused", x.turn(17), -1);
        due("runRegisters", x.runRegisters(1), -1);
        due("op", opThrows(x, 0, 0, 0), true);
        due("size", x.size(0), -1);
        due("the stack machine stays", x.look(0, 2), 1);
    }

    private static void turnAnew() {
        RegisterMill x = turned(3, 0, 0, "0 7, 0 2, 4, 15");
        x.cell(4, 44);
        dueRun("run", x, 1, 5);
        due("another R", x.turn(4), 4);
        for (int what = 0; what < 5; what++) {
            due("the stack machine begins anew", x.look(0, what), 0);
            due("the register machine begins anew", x.look(1, what), 0);
        }
        due("MEMORY as it is", x.peek(0, 4), 44);
        due("MEMORY as it is", x.peek(1, 4), 44);
        due("SLOTS of the earlier one", x.slots(0), 0);
        due("code", code(x, 0), "SET 0 7; SET 1 2; WORK 0 0 1 4; TELL 0");
        x.runStack(2);
        due("the same R", x.turn(4), 4);
        due("begins anew, too", x.look(0, 2), 0);
        dueRun("run", x, 1, 5);
    }

    private static void opsInAll() {
        RegisterMill x = new RegisterMill();
        for (int f = 0; f < 12; f++) {
            addFunc(x, 0, 0, times(f, "0 9") + "0 1, 15");
        }
        due("check", x.check(), 0);
        for (int r : new int[] {3, 16}) {
            due("all but the last SET of each is left out", x.turn(r), 24);
            int sum = 0;
            for (int f = 0; f < 12; f++) {
                due("code of " + f, code(x, f), "SET 0 1; TELL 0");
                sum += x.size(f);
            }
            due("ops in all", x.count(4), sum);
        }
    }

    /** With 1 .. 12 on the STACK, value i is asked for until place 23 - i. */
    private static void everyNumberOfRegisters() {
        StringBuilder text = new StringBuilder();
        for (int i = 1; i <= 12; i++) {
            text.append("0 ").append(i).append(", ");
        }
        RegisterMill x = checked(0, 0, text + times(11, "3") + "15");
        for (int r = 3; r <= 16; r++) {
            int free = r - 2;
            int slots = Math.max(0, 12 - free);
            x.turn(r);
            due("SLOTS with " + r, x.slots(0), slots);
            for (int v = 0; v < 12; v += 11) {
                String home = v < slots ? " r-1 s" + v : " r" + v % free + " s-1";
                due("value " + v + " with " + r, span(x, 0, v), v + ".." + (23 - v) + home);
            }
            for (int v = 1; v < 11; v++) {
                due("register of " + v + " with " + r, x.value(0, v, 2), v < slots ? -1 : v % free);
            }
            dueRun("with " + r, x, 1, 78);
        }
    }

    private static void allValuesAtOnce() {
        StringBuilder text = new StringBuilder(times(12, "0 1") + times(11, "3"));
        for (int k = 0; k < 10; k++) {
            text.append("1 ").append(k).append(", 3, ");
        }
        RegisterMill x = checked(6, 10, text + "15");
        x.turn(16);
        due("places", x.places(0), 34);
        due("SLOTS of 22 values with 14 registers", x.slots(0), 8);
        String[] homes = {"r0 s-1", "r1 s-1", "r2 s-1", "r-1 s7", "r-1 s6", "r-1 s5", "r-1 s4", "r-1 s3",
            "r-1 s2", "r-1 s1", "r-1 s0", "r11 s-1", "r12 s-1", "r13 s-1", "r10 s-1", "r9 s-1", "r8 s-1",
            "r7 s-1", "r6 s-1", "r5 s-1", "r4 s-1", "r3 s-1"};
        for (int v = 0; v < 22; v++) {
            int first = v < 10 ? 0 : v - 10;
            int last = v < 10 ? 23 + v : v == 10 ? 33 : 33 - v;
            due("value " + v, span(x, 0, v), first + ".." + last + " " + homes[v]);
        }
        dueRun("22 values", x, 1, 12);
        x.turn(3);
        due("SLOTS of 22 values with 1 register", x.slots(0), 21);
        due("the one that has it", span(x, 0, 21), "11..12 r0 s-1");
        due("the one that had it first", span(x, 0, 0), "0..23 r-1 s10");
        due("the next one got the first SLOT", span(x, 0, 1), "0..24 r-1 s0");
        dueRun("22 values", x, 1, 12);
    }

    private static void spareRegisters() {
        RegisterMill x = checked(0, 0, times(12, "0 1") + times(11, "3") + "15");
        x.turn(3);
        due("A is R - 2", x.op(0, 0, 1), 1);
        due("A is saved", x.op(0, 1, 2), 1);
        // The first WORK reads what is in SLOT 10 and what is in the register.
        due("WORK of A", x.op(0, 24, 0), 2);
        due("written into A", x.op(0, 24, 1), 1);
        due("read from A", x.op(0, 24, 2), 1);
        due("read from the register", x.op(0, 24, 3), 0);
        RegisterMill y = checked(10 - 4, 10, "1 0, 1 1, 1 2, 1 3, 1 4, 1 5, 1 6, 1 7, 1 8, 1 9, "
            + times(2, "0 1") + times(11, "3") + "15");
        y.turn(16);
        due("14 registers are enough for 13 values", y.slots(0), 0);
        due("no A, no B", code(y, 0).contains("14") || code(y, 0).contains("15"), false);
        dueRun("14 registers", y, 1, 2);
    }

    private static void spanThatEndsAtAFirstPlace() {
        RegisterMill x = turned(3, 0, 0, "0 3, 16, 9, 16, 15");
        due("ends where the other begins", span(x, 0, 0), "0..2 r0 s-1");
        due("so it has not given it back", span(x, 0, 1), "2..3 r-1 s0");
        due("code", code(x, 0), "SET 0 3; READ 0 0; READ 1 0; SAVE 0 1; LOAD 1 0; TELL 1");
        x.turn(4);
        due("a second register", span(x, 0, 1), "2..3 r1 s-1");
        due("code", code(x, 0), "SET 0 3; READ 0 0; READ 1 0; TELL 1");
    }

    private static void spanThatEndsAheadOfAFirstPlace() {
        RegisterMill x = turned(3, 0, 0, "0 3, 16, 0 4, 15");
        due("ends ahead", span(x, 0, 0), "0..1 r0 s-1");
        due("has given it back", span(x, 0, 1), "2..3 r0 s-1");
        due("code", code(x, 0), "SET 0 3; READ 0 0; SET 0 4; TELL 0");
    }

    private static final String FIVE = "1 0, 1 1, 3, 1 2, 3, 0 9, 0 8, 17, 15";

    private static void leastFreeRegister() {
        RegisterMill x = turned(6, 3, 3, FIVE);
        String[] want = {"0..0 r0", "0..0 r1", "0..1 r2", "0..5 r3", "2..4 r0", "3..4 r1"};
        for (int v = 0; v < want.length; v++) {
            due("value " + v, span(x, 0, v), want[v] + " s-1");
        }
        due("code", code(x, 0), "TAKE 0 0; TAKE 1 1; TAKE 2 2; WORK 3 0 1 3; WORK 3 3 2 3; SET 0 9; SET 1 8; "
            + "WRITE 1 0; TELL 3");
    }

    private static void spansThatBeginAndEndAtOnePlace() {
        RegisterMill x = turned(4, 3, 3, FIVE);
        String[] two = {"0..0 r0 s-1", "0..0 r1 s-1", "0..1 r-1 s0", "0..5 r-1 s1", "2..4 r0 s-1", "3..4 r1 s-1"};
        for (int v = 0; v < two.length; v++) {
            due("value " + v + " with 2", span(x, 0, v), two[v]);
        }
        x.turn(3);
        String[] one = {"0..0 r0 s-1", "0..0 r-1 s0", "0..1 r-1 s1", "0..5 r-1 s2", "2..4 r0 s-1", "3..4 r-1 s3"};
        for (int v = 0; v < one.length; v++) {
            due("value " + v + " with 1", span(x, 0, v), one[v]);
        }
        dueRun("with 1", x, 1, 0);
        due("cell", x.peek(1, 8), 9);
    }

    private static final String SIX = "0 1, 0 2, 0 3, 0 4, 0 5, 0 6, 14 1, 15";

    private static RegisterMill sixArgs() {
        RegisterMill x = mill(0, 0, SIX);
        addFunc(x, 6, 6, "1 0, 1 5, 4, 15");
        due("check", x.check(), 0);
        return x;
    }

    private static void argsThatEndAtOnePlace() {
        RegisterMill x = sixArgs();
        x.turn(5);
        String[] want = {"0..7 r-1 s0", "1..6 r1 s-1", "2..6 r2 s-1", "3..6 r0 s-1", "4..6 r-1 s1", "5..6 r-1 s2"};
        for (int v = 0; v < want.length; v++) {
            due("value " + v, span(x, 0, v), want[v]);
        }
        dueRun("six ARGS", x, 1, -5);
    }

    private static void spanOfOnePlace() {
        // What the second WORK writes nobody reads: its SPAN is that place alone.
        RegisterMill x = turned(5, 0, 1, "0 6, 2 0, 12 3, 1 0, 1 0, 3, 11, 1 0, 15");
        due("code", code(x, 0), "SET 0 6; MOVE 1 0; GO 3; WORK 0 1 1 3; TELL 1");
        due("read until the end", span(x, 0, 0), "1..4 r1 s-1");
        due("written twice", span(x, 0, 1), "0..3 r0 s-1");
        RegisterMill y = turned(5, 1, 1, "1 0, 1 0, 3, 11, 1 0, 15");
        due("one place", span(y, 0, 1), "0..0 r1 s-1");
    }

    private static void slotForGood() {
        RegisterMill x = turned(5, 3, 3, FIVE);
        due("a SLOT from the first", span(x, 0, 3), "0..5 r-1 s0");
        due("a SLOT for good, though registers get free", code(x, 0),
            "TAKE 0 0; TAKE 1 1; TAKE 2 2; WORK 3 0 1 3; SAVE 0 3; LOAD 3 0; WORK 3 3 2 3; SAVE 0 3; "
            + "SET 0 9; SET 1 8; WRITE 1 0; LOAD 3 0; TELL 3");
        due("SLOTS", x.slots(0), 1);
        // Value 0 has the register until value 1 comes, and its SLOT ahead of that, too.
        RegisterMill y = turned(3, 0, 0, "0 4, 16, 0 1, 0 2, 17, 15");
        due("loses its register", span(y, 0, 0), "0..5 r-1 s0");
        due("code", code(y, 0), "SET 1 4; SAVE 0 1; LOAD 1 0; READ 1 1; SAVE 0 1; SET 0 1; SET 1 2; SAVE 1 1; "
            + "LOAD 1 1; WRITE 1 0; LOAD 1 0; TELL 1");
    }

    private static void swapFirstInASlot() {
        RegisterMill x = turned(3, 0, 0, "0 7, 0 2, 10, 17, 12 4");
        due("both end at one place", span(x, 0, 0), "0..3 r0 s-1");
        due("the greater number", span(x, 0, 1), "1..3 r-1 s0");
        due("code", code(x, 0), "SET 0 7; SET 1 2; SAVE 0 1; LOAD 1 0; MOVE 2 0; SAVE 0 2; MOVE 0 1; "
            + "LOAD 1 0; WRITE 1 0; GO 9");
        due("run", x.runStack(5), 0);
        due("run", x.runRegisters(10), 0);
        due("cell", x.peek(0, 7), 2);
        due("cell", x.peek(1, 7), 2);
    }

    private static void swapBothInSlots() {
        RegisterMill x = turned(3, 0, 0, "0 1, 0 2, 10, 0 3, 16, 11, 17, 12 7");
        due("first", span(x, 0, 1), "1..5 r-1 s0");
        due("second", span(x, 0, 0), "0..5 r-1 s1");
        due("code", code(x, 0), "SET 1 1; SAVE 1 1; SET 1 2; SAVE 0 1; LOAD 1 0; LOAD 2 1; SAVE 0 2; SAVE 1 1; "
            + "SET 0 3; READ 0 0; LOAD 1 0; LOAD 2 1; WRITE 1 2; GO 13");
        x.runRegisters(14);
        due("cell", x.peek(1, 1), 2);
        x.turn(5);
        due("code with registers", code(x, 0), "SET 0 1; SET 1 2; SWAP 1 0; SET 2 3; READ 2 2; WRITE 1 0; GO 6");
    }

    private static void swapAboveTheLowest() {
        RegisterMill x = turned(5, 0, 0, "0 50, 0 7, 0 2, 10, 4, 3, 15");
        due("code", code(x, 0), "SET 0 50; SET 1 7; SET 2 2; SWAP 2 1; WORK 1 1 2 4; WORK 0 0 1 3; TELL 0");
        dueRun("run", x, 1, 45);
    }

    private static void twoReadsOfOneSlot() {
        RegisterMill x = turned(3, 1, 1, "1 0, 9, 3, 11, 1 0, 15");
        due("code", code(x, 0), "TAKE 1 0; SAVE 0 1; LOAD 1 0; LOAD 2 0; WORK 0 1 2 3; LOAD 1 0; TELL 1");
    }

    private static void moveToItself() {
        RegisterMill x = turned(3, 1, 1, "1 0, 2 0, 1 0, 15");
        due("places", x.places(0), 1);
        due("code", code(x, 0), "TAKE 0 0; TELL 0");
        // Where a jump goes all goes: it goes to itself then.
        RegisterMill y = turned(4, 1, 1, "1 0, 2 0, 1 0, 13 0, 0 7, 15");
        due("places", y.places(0), 3);
        due("code", code(y, 0), "TAKE 0 0; IFNOT 0 1; SET 0 7; TELL 0");
        due("STEPS", y.runRegisters(50), 0);
    }

    private static void moveToItselfForgets() {
        RegisterMill x = turned(6, 1, 1, "0 3, 2 0, 1 0, 1 0, 3, 15");
        due("places", x.places(0), 4);
        due("what told the written one goes", code(x, 0), "SET 0 3; MOVE 1 0; WORK 0 0 1 3; TELL 0");
        dueRun("run", x, 1, 6);
    }

    private static void copiesOfCopies() {
        RegisterMill x = turned(6, 1, 3, "1 0, 2 1, 1 1, 2 2, 1 2, 15");
        due("places", x.places(0), 1);
        due("code", code(x, 0), "TAKE 0 0; TELL 0");
    }

    private static void tableEmptyBehindIfnot() {
        RegisterMill x = turned(5, 1, 1, "1 0, 0 0, 13 4, 15, 15");
        due("places", x.places(0), 5);
        due("code", code(x, 0), "TAKE 0 0; MOVE 1 0; SET 0 0; IFNOT 0 5; TELL 1; TELL 1");
    }

    private static void wordsWithoutDepth() {
        RegisterMill x = turned(3, 0, 0, "12 2, 99, 0 4, 15, 98");
        due("places", x.places(0), 3);
        due("code", code(x, 0), "GO 1; SET 0 4; TELL 0");
        dueRun("run", x, 1, 4);
    }

    private static void jumpToDropped() {
        // To one 11, to three, and to the last of them.
        RegisterMill x = turned(3, 0, 0, "0 1, 12 2, 11, 0 2, 15");
        due("one", code(x, 0), "GO 1; SET 0 2; TELL 0");
        RegisterMill y = turned(3, 0, 0, "0 1, 9, 9, 12 4, 11, 11, 11, 0 2, 15");
        due("three", code(y, 0), "GO 1; SET 0 2; TELL 0");
        dueRun("three", y, 1, 2);
        RegisterMill z = turned(3, 0, 0, "0 1, 12 4, 9, 11, 11, 12 6, 12 0");
        due("on to a jump", code(z, 0), "GO 1; GO 2; GO 0");
    }

    private static void jumpToLeftOut() {
        RegisterMill x = turned(3, 0, 0, "0 1, 0 2, 0 0, 13 4, 11, 11, 0 5, 11, 0 6, 15");
        due("places", x.places(0), 4);
        due("over 11s and what is left out", code(x, 0), "SET 0 0; IFNOT 0 2; SET 0 6; TELL 0");
        dueRun("run", x, 1, 6);
        RegisterMill y = turned(3, 0, 0, "0 5, 11, 0 1, 13 0, 12 0");
        due("the first ones went", code(y, 0), "SET 0 1; IFNOT 0 0; GO 0");
    }

    private static void jumpToTheFirst() {
        RegisterMill x = turned(4, 1, 2, "1 0, 1 1, 3, 13 0, 12 0");
        due("behind the entry", code(x, 0), "TAKE 0 0; SET 2 0; SAVE 0 2; LOAD 3 0; WORK 1 0 3 3; IFNOT 1 3; GO 3");
    }

    private static void leftOutRoundByRound() {
        RegisterMill x = turned(3, 0, 3, "0 5, 2 0, 12 3, 1 0, 2 1, 12 6, 1 1, 2 2, 12 9, 0 7, 15");
        due("places", x.places(0), 5);
        due("code", code(x, 0), "GO 1; GO 2; GO 3; SET 0 7; TELL 0");
        dueRun("run", x, 1, 7);
        // Two LOCALS that keep one another alive through a jump back stay.
        RegisterMill y = turned(6, 0, 2, "1 0, 12 2, 1 1, 2 0, 2 1, 12 0");
        due("alive in a ring", code(y, 0), "SET 0 0; SET 1 0; MOVE 2 0; GO 4; MOVE 0 1; MOVE 1 2; GO 2");
    }

    private static void whatIsNeverLeftOut() {
        RegisterMill work = turned(4, 0, 0, "0 1, 0 2, 3, 11, 0 3, 15");
        due("WORK", code(work, 0), "SET 0 1; SET 1 2; WORK 0 0 1 3; SET 0 3; TELL 0");
        RegisterMill read = turned(4, 0, 0, "0 5, 16, 11, 0 3, 15");
        due("READ", code(read, 0), "SET 0 5; READ 0 0; SET 0 3; TELL 0");
        RegisterMill call = turned(4, 0, 0, "14 0, 11, 0 3, 15");
        due("CALL", code(call, 0), "CALL 0; GET 0; SET 0 3; TELL 0");
        RegisterMill swap = turned(4, 0, 0, "0 1, 0 2, 10, 11, 11, 0 3, 15");
        due("SWAP", code(swap, 0), "SET 0 1; SET 1 2; SWAP 1 0; SET 0 3; TELL 0");
        RegisterMill write = turned(4, 0, 0, "0 1, 0 2, 17, 0 3, 15");
        due("WRITE", code(write, 0), "SET 0 1; SET 1 2; WRITE 1 0; SET 0 3; TELL 0");
        RegisterMill go = turned(4, 0, 0, "12 1, 0 0, 13 3, 0 3, 15");
        due("GO, IFNOT to what is next", code(go, 0), "GO 1; SET 0 0; IFNOT 0 3; SET 0 3; TELL 0");
    }

    private static void liveOnOneWayOnly() {
        RegisterMill x = turned(4, 0, 1, "0 5, 2 0, 0 0, 16, 13 7, 0 1, 15, 1 0, 15");
        due("code", code(x, 0), "SET 0 5; MOVE 1 0; SET 0 0; READ 0 0; IFNOT 0 7; SET 0 1; TELL 0; TELL 1");
        due("SPAN over the other way", span(x, 0, 0), "1..7 r1 s-1");
        dueRun("this way", x, 1, 5);
        x.cell(0, 1);
        x.again();
        dueRun("the other way", x, 1, 1);
    }

    private static void liveBehindTell() {
        // What stands behind a TELL is not where it goes: LOCAL 0 is written there for nobody.
        RegisterMill x = turned(4, 1, 1, "1 0, 13 6, 0 5, 2 0, 0 3, 15, 1 0, 15");
        due("places", x.places(0), 4);
        due("code", code(x, 0), "TAKE 0 0; IFNOT 0 4; SET 1 3; TELL 1; TELL 0");
    }

    private static void liveBehindGo() {
        RegisterMill x = turned(4, 1, 1, "1 0, 13 5, 0 5, 2 0, 12 7, 1 0, 15, 0 3, 15");
        due("places", x.places(0), 5);
        due("code", code(x, 0), "TAKE 0 0; IFNOT 0 3; GO 4; TELL 0; SET 0 3; TELL 0");
    }

    private static void liveThroughAJumpBack() {
        RegisterMill x = turned(5, 2, 2, "1 0, 1 1, 3, 13 0, 1 0, 15");
        due("read at the first place alone", span(x, 0, 1), "0..1 r1 s-1");
        due("and behind", span(x, 0, 0), "0..2 r0 s-1");
    }

    private static void liveAnewInEachRound() {
        // LOCAL 0 was LIVE all around the loop for a MOVE that goes; then nobody reads it.
        RegisterMill x = turned(3, 0, 2, "0 5, 2 0, 1 0, 2 1, 12 2");
        due("places", x.places(0), 1);
        due("code", code(x, 0), "GO 0");
    }

    private static RegisterMill sumOfLocals() {
        StringBuilder text = new StringBuilder("1 0, ");
        for (int k = 1; k < 10; k++) {
            text.append("1 ").append(k).append(", 3, ");
        }
        RegisterMill x = mill(0, 0, SIX);
        addFunc(x, 6, 10, text + "15");
        due("check", x.check(), 0);
        return x;
    }

    private static void entryOfAllLocals() {
        RegisterMill x = sumOfLocals();
        x.turn(16);
        due("with registers", code(x, 1), "TAKE 0 0; TAKE 1 1; TAKE 2 2; TAKE 3 3; TAKE 4 4; TAKE 5 5; "
            + "SET 6 0; SET 7 0; SET 8 0; SET 9 0; WORK 10 0 1 3; WORK 10 10 2 3; WORK 10 10 3 3; "
            + "WORK 10 10 4 3; WORK 10 10 5 3; WORK 10 10 6 3; WORK 10 10 7 3; WORK 10 10 8 3; "
            + "WORK 10 10 9 3; TELL 10");
        dueRun("with registers", x, 1, 21);
        x.turn(3);
        due("size", x.size(1), 56);
        due("SLOTS", x.slots(1), 10);
        due("with SLOTS", code(x, 1).startsWith("TAKE 0 0; TAKE 1 1; SAVE 0 1; TAKE 1 2; SAVE 1 1; TAKE 1 3; "
            + "SAVE 2 1; TAKE 1 4; SAVE 3 1; TAKE 1 5; SAVE 4 1; SET 1 0; SAVE 5 1; SET 1 0; SAVE 6 1; "
            + "SET 1 0; SAVE 7 1; SET 1 0; SAVE 8 1; LOAD 2 0; WORK 1 0 2 3; SAVE 9 1; LOAD 1 9; LOAD 2 1; "
            + "WORK 1 1 2 3; SAVE 9 1; "), true);
        dueRun("with SLOTS", x, 1, 21);
    }

    private static void entryOfNone() {
        RegisterMill x = turned(3, 6, 10, "0 1, 15");
        due("nobody asks for them", code(x, 0), "SET 0 1; TELL 0");
        for (int v = 0; v < 10; v++) {
            due("no SPAN", span(x, 0, v), "-1..-1 r-1 s-1");
        }
        RegisterMill y = turned(3, 1, 1, "12 0");
        due("an endless FUNC", code(y, 0), "GO 0");
    }

    private static void entryOfTheOverwritten() {
        RegisterMill x = turned(5, 2, 3, "0 3, 2 0, 12 3, 1 0, 1 1, 3, 15");
        due("ARG 0 is written ahead, LOCAL 2 unused", code(x, 0),
            "TAKE 0 1; SET 1 3; MOVE 2 1; GO 4; WORK 1 2 0 3; TELL 1");
        dueRun("run", x, 1, 3);
    }

    private static void callOfNoArgs() {
        RegisterMill x = mill(0, 0, "0 1, 14 1, 3, 15");
        addFunc(x, 0, 0, "0 2, 15");
        due("check", x.check(), 0);
        x.turn(4);
        due("code", code(x, 0), "SET 0 1; CALL 1; GET 1; WORK 0 0 1 3; TELL 0");
        due("written where it is called", span(x, 0, 1), "1..2 r1 s-1");
        dueRun("run", x, 1, 3);
    }

    private static void callOfSixArgs() {
        RegisterMill x = sixArgs();
        x.turn(3);
        due("code", code(x, 0), "SET 1 1; SAVE 0 1; SET 0 2; SET 1 3; SAVE 1 1; SET 1 4; SAVE 2 1; SET 1 5; "
            + "SAVE 3 1; SET 1 6; SAVE 4 1; LOAD 1 0; PASS 0 1; PASS 1 0; LOAD 1 1; PASS 2 1; LOAD 1 2; PASS 3 1; "
            + "LOAD 1 3; PASS 4 1; LOAD 1 4; PASS 5 1; CALL 1; GET 1; SAVE 0 1; LOAD 1 0; TELL 1");
        dueRun("run", x, 1, -5);
        x.turn(16);
        due("code", code(x, 0), "SET 0 1; SET 1 2; SET 2 3; SET 3 4; SET 4 5; SET 5 6; PASS 0 0; PASS 1 1; "
            + "PASS 2 2; PASS 3 3; PASS 4 4; PASS 5 5; CALL 1; GET 0; TELL 0");
        dueRun("run", x, 1, -5);
    }

    private static void longestFunc() {
        RegisterMill x = checked(0, 0, "0 1, " + times(149, "0 1, 3") + "15");
        due("WORDS", x.count(1), 300);
        due("turn", x.turn(3), 600);
        due("places", x.places(0), 300);
        due("SPAN of all", span(x, 0, 0), "0..299 r-1 s0");
        due("SPAN", span(x, 0, 1), "1..298 r0 s-1");
        due("the last op", x.op(0, 599, 0), 6);
        due("none behind it", opThrows(x, 0, 600, 0), true);
        dueRun("run", x, 1, 150);
        due("STEPS", x.look(1, 2), 600);
        due("turn", x.turn(16), 300);
        due("none of the earlier ones", opThrows(x, 0, 300, 0), true);
        dueRun("run", x, 1, 150);
    }

    private static void opsOfTheEdge() {
        RegisterMill x = turned(3, 0, 0, "0 -9, 15");
        due("the first", x.op(0, 0, 0), 0);
        due("the last", x.op(0, 1, 0), 6);
        for (int i : new int[] {MIN, -2, -1, 2, 3, 600, MAX}) {
            due("op " + i, opThrows(x, 0, i, 0), true);
        }
        for (int f : FAR) {
            due("op of FUNC " + f, opThrows(x, f, 0, 0), true);
        }
        due("op of the next FUNC", opThrows(x, 1, 0, 0), true);
        for (int what : new int[] {MIN, -2, -1, 5, 6, MAX}) {
            due("part " + what, opThrows(x, 0, 0, what), true);
        }
        // An op behind a FUNC's last is none, though another FUNC's stands there.
        RegisterMill y = mill(0, 0, "0 1, 15");
        addFunc(y, 0, 0, "0 2, 15");
        y.check();
        y.turn(3);
        due("the first FUNC's third", opThrows(y, 0, 2, 0), true);
        due("the second FUNC's last ahead", opThrows(y, 1, -1, 0), true);
        due("the second FUNC's first", y.op(1, 0, 2), 2);
    }

    private static void partsOfAnOp() {
        RegisterMill x = turned(16, 0, 0, "0 -2147483648, 0 2147483647, 6, 15");
        int[][] want = {{0, 0, MIN, 0, 0}, {0, 1, MAX, 0, 0}, {2, 0, 0, 1, 6}, {6, 0, 0, 0, 0}};
        for (int i = 0; i < want.length; i++) {
            for (int what = 0; what < 5; what++) {
                due("op " + i + " part " + what, x.op(0, i, what), want[i][what]);
            }
        }
        // A WORK's c and d do not stay for another op at its place.
        RegisterMill y = turned(4, 0, 0, "0 1, 0 2, 5, 15");
        due("d", y.op(0, 2, 4), 5);
        y.clear();
        addFunc(y, 0, 0, "0 1, 0 2, 17, 0 3, 15");
        y.check();
        y.turn(4);
        due("WRITE", code(y, 0), "SET 0 1; SET 1 2; WRITE 1 0; SET 0 3; TELL 0");
    }

    private static void funcsOfTheEdge() {
        RegisterMill x = new RegisterMill();
        for (int f = 0; f < 12; f++) {
            addFunc(x, 0, 0, "0 " + f + ", 0 5, 17, 0 1, 15");
        }
        x.check();
        x.turn(3);
        for (int f : new int[] {0, 11}) {
            due("size of " + f, x.size(f), 9);
            due("slots of " + f, x.slots(f), 1);
            due("places of " + f, x.places(f), 5);
            due("value of " + f, x.value(f, 0, 1), 4);
            due("n of " + f, x.op(f, 0, 2), f);
        }
        for (int f : FAR) {
            due("size of " + f, x.size(f), -1);
            due("slots of " + f, x.slots(f), -1);
            due("places of " + f, x.places(f), -1);
            due("value of " + f, x.value(f, 0, 1), -1);
        }
        RegisterMill y = turned(3, 0, 0, "0 1, 15");
        due("one more than there are", y.size(1), -1);
        due("one more than there are", y.slots(1), -1);
        due("one more than there are", y.places(1), -1);
        due("one more than there are", y.value(1, 0, 0), -1);
    }

    private static void valuesOfTheEdge() {
        RegisterMill x = checked(0, 0, times(12, "0 1") + times(11, "3") + "15");
        x.turn(16);
        due("the 12th on the STACK", span(x, 0, 11), "11..12 r11 s-1");
        RegisterMill y = checked(0, 10, times(12, "0 1") + times(11, "3") + "15");
        y.turn(16);
        due("the 12th on the STACK", span(y, 0, 21), "11..12 r11 s-1");
        for (int v : new int[] {MIN, -2, -1, 12, 13, 22, 32, MAX}) {
            for (int what = 0; what < 4; what++) {
                due("value " + v, x.value(0, v, what), -1);
            }
        }
        for (int v : new int[] {MIN, -1, 0, 9, 22, 23, 32, MAX}) {
            for (int what = 0; what < 4; what++) {
                due("value " + v, y.value(0, v, what), -1);
            }
        }
        for (int what : new int[] {MIN, -2, -1, 4, 5, MAX}) {
            due("what " + what, x.value(0, 0, what), -1);
        }
        x.turn(3);
        due("a register, no SLOT", span(x, 0, 11), "11..12 r0 s-1");
        due("a SLOT, no register", span(x, 0, 0), "0..23 r-1 s0");
    }

    private static void valuesOfAnEarlierProgram() {
        RegisterMill x = mill(0, 10, times(12, "0 1") + times(11, "3") + times(1, "1 9, 3") + "15");
        addFunc(x, 0, 0, "0 1, 15");
        x.check();
        x.turn(3);
        due("another FUNC's values", span(x, 1, 0), "0..1 r0 s-1");
        for (int v = 1; v < 23; v++) {
            due("another FUNC's values", span(x, 1, v), "-1..-1 r-1 s-1");
        }
        x.clear();
        addFunc(x, 0, 10, "0 1, 15");
        x.check();
        x.turn(3);
        due("SLOTS", x.slots(0), 0);
        for (int v = 0; v < 22; v++) {
            due("value " + v, span(x, 0, v), v == 10 ? "0..1 r0 s-1" : "-1..-1 r-1 s-1");
        }
    }

    private static void placesOfTheEdge() {
        due("one place", turned(3, 0, 0, "12 0").places(0), 1);
        due("nothing is left out", turned(3, 0, 0, "0 1, 15").places(0), 2);
        due("a place is not an op", turned(3, 6, 6, "1 0, 1 1, 3, 1 2, 3, 15").places(0), 3);
        due("an op is not a place", turned(3, 6, 6, "1 0, 1 1, 3, 1 2, 3, 15").size(0) > 3, true);
    }

    private static void slotsOfTheEdge() {
        RegisterMill x = checked(0, 0, "0 1, 0 2, 3, 15");
        x.turn(4);
        due("none", x.slots(0), 0);
        x.turn(3);
        due("one", x.slots(0), 1);
        due("none of a FUNC that needs none", turned(3, 0, 0, "12 0").slots(0), 0);
    }

    private static void notTurned() {
        RegisterMill x = new RegisterMill();
        for (int stage = 0; stage < 3; stage++) {
            due("op", opThrows(x, 0, 0, 0), true);
            due("size", x.size(0), -1);
            due("value", x.value(0, 0, 0), -1);
            due("slots", x.slots(0), -1);
            due("places", x.places(0), -1);
            due("R", x.count(3), 0);
            due("ops", x.count(4), 0);
            if (stage == 0) {
                addFunc(x, 0, 0, "0 1, 15");
            } else {
                due("check", x.check(), 0);
            }
        }
    }
}
