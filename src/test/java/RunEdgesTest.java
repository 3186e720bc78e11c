/** Boundary cases of promises 13 to 19: STEPS told and done, ends and traps, cells, what looks and counts refuse. */
public final class RunEdgesTest extends Cases {
    private static final String LOOP = "0 1, 11, 12 0";

    public static void main(String[] args) {
        cellsOfTheEdge();
        cellsInEveryState();
        refusedCellLeavesAll();
        cellWithinARun();
        peekOfTheEdge();
        memoriesApart();
        againWhenNotChecked();
        againWhenNotTurned();
        againWithinARun();
        againBehindEveryEnd();
        againBehindManyTraps();
        stepsOfTheEdge();
        refusedRunLeavesAll();
        fewestAndMostSteps();
        endAtTheLastStep();
        endOfOneStep();
        endedStaysSo();
        runsWhenNotChecked();
        runRegistersWhenNotTurned();
        machinesGoApart();
        plusWraps();
        minusWraps();
        timesWraps();
        divisionCuts();
        divisionByNothing();
        lessAndSame();
        cellsThatAreNone();
        cellsThatAre();
        trapWithinCalls();
        thirtyCallsAndOneMore();
        thirtyFullCalls();
        callsBehindOneAnother();
        mainWithinMain();
        localsAreNothingAtFirst();
        toldOfTheEdge();
        looksOfTheEdge();
        looksAlongARun();
        countsOfTheEdge();
        countsAlong();
        lastOf512Calls();
        programsOverAndOver();
        finish("RunEdgesTest");
    }

    private static void cellsOfTheEdge() {
        RegisterMill x = new RegisterMill();
        for (int k = -3; k <= 67; k++) {
            due("cell(" + k + ")", x.cell(k, k + 100), k >= 0 && k <= 63);
        }
        for (int k = 0; k < 64; k++) {
            due("stack machine's " + k, x.peek(0, k), k + 100);
            due("register machine's " + k, x.peek(1, k), k + 100);
        }
        for (int v : new int[] {MIN, -1, 0, MAX}) {
            due("any v", x.cell(63, v), true);
            due("any v", x.peek(0, 63), v);
            due("any v", x.peek(1, 63), v);
        }
    }

    private static void cellsInEveryState() {
        RegisterMill x = new RegisterMill();
        due("new", x.cell(0, 1), true);
        addFunc(x, 0, 0, "0 0, 16, 15");
        due("with WORDS", x.cell(0, 2), true);
        x.check();
        due("checked", x.cell(0, 3), true);
        x.turn(3);
        due("as it is behind turn", x.peek(1, 0), 3);
        due("turned", x.cell(0, 4), true);
        dueRun("run", x, 1, 4);
        due("ended", x.cell(0, 5), true);
        due("what was told stays", x.look(0, 1), 4);
        x.again();
        dueRun("run", x, 1, 5);
    }

    private static void refusedCellLeavesAll() {
        RegisterMill x = new RegisterMill();
        x.cell(0, 5);
        x.cell(63, 6);
        for (int k : new int[] {MIN, -64, -1, 64, 128, MAX}) {
            due("cell(" + k + ")", x.cell(k, 9), false);
        }
        for (int k = 0; k < 64; k++) {
            int want = k == 0 ? 5 : k == 63 ? 6 : 0;
            due("cell " + k, x.peek(0, k), want);
            due("cell " + k, x.peek(1, k), want);
        }
    }

    private static void cellWithinARun() {
        RegisterMill x = turned(3, 0, 0, "0 1, 11, 0 9, 16, 15");
        x.runStack(3);
        x.runRegisters(1);
        x.cell(9, 77);
        dueRun("it is seen", x, 1, 77);
        due("STEPS go on", x.look(0, 2), 5);
    }

    private static void peekOfTheEdge() {
        RegisterMill x = new RegisterMill();
        for (int machine = -2; machine <= 3; machine++) {
            for (int k = -2; k <= 65; k++) {
                boolean none = machine < 0 || machine > 1 || k < 0 || k > 63;
                due("peek(" + machine + ", " + k + ") throws", peekThrows(x, machine, k), none);
            }
        }
        for (int far : new int[] {MIN, MAX}) {
            due("peek throws", peekThrows(x, far, 0), true);
            due("peek throws", peekThrows(x, 0, far), true);
            due("peek throws", peekThrows(x, 1, far), true);
        }
    }

    private static void memoriesApart() {
        RegisterMill x = turned(3, 0, 0, "0 5, 0 0, 17, 0 6, 0 63, 17, 0 0, 15");
        x.runStack(20);
        due("the stack machine's", x.peek(0, 0), 5);
        due("the stack machine's", x.peek(0, 63), 6);
        due("not the register machine's", x.peek(1, 0), 0);
        due("not the register machine's", x.peek(1, 63), 0);
        x.cell(0, 8);
        due("both", x.peek(0, 0), 8);
        due("both", x.peek(1, 0), 8);
        x.runRegisters(20);
        due("the register machine's", x.peek(1, 0), 5);
        due("not the stack machine's", x.peek(0, 0), 8);
    }

    private static void againWhenNotChecked() {
        RegisterMill x = new RegisterMill();
        due("new", x.again(), false);
        addFunc(x, 0, 0, "0 1");
        due("not checked", x.again(), false);
        x.check();
        due("a fault", x.again(), false);
        addWords(x, "15");
        x.check();
        due("checked", x.again(), true);
        x.clear();
        due("cleared", x.again(), false);
    }

    private static void dueBegun(String what, RegisterMill x) {
        for (int k = 0; k < 5; k++) {
            due(what + ": stack machine " + k, x.look(0, k), 0);
            due(what + ": register machine " + k, x.look(1, k), 0);
        }
    }

    private static void againWhenNotTurned() {
        RegisterMill x = checked(0, 0, "0 6, 15");
        x.runStack(1);
        due("again", x.again(), true);
        dueBegun("again", x);
        due("still not turned", x.runRegisters(1), -1);
        due("run", x.runStack(2), 1);
    }

    private static void againWithinARun() {
        RegisterMill x = mill(0, 0, "0 4, 0 3, 17, 14 1, 15");
        addFunc(x, 0, 0, "0 3, 16, 15");
        x.check();
        x.turn(3);
        x.runStack(5);
        x.runRegisters(7);
        due("within a call", x.look(0, 4), 2);
        due("again", x.again(), true);
        dueBegun("again", x);
        due("R stays", x.count(3), 3);
        due("MEMORIES as they are", x.peek(0, 3), 4);
        due("MEMORIES as they are", x.peek(1, 3), 4);
        due("again, and again", x.again(), true);
        dueRun("from the first", x, 1, 4);
        due("STEPS", x.look(0, 2), 8);
    }

    private static void againBehindEveryEnd() {
        String[] texts = {"0 7, 15", "0 1, 0 0, 6, 15", "0 64, 16, 15", "14 0, 15"};
        for (int end = 1; end <= 4; end++) {
            RegisterMill x = turned(3, 0, 0, texts[end - 1]);
            for (int i = 0; i < 3; i++) {
                dueRun("end " + end, x, end, end == 1 ? 7 : 0);
                due("end", x.look(0, 0), end);
                due("end", x.look(1, 0), end);
                due("again", x.again(), true);
                dueBegun("end " + end, x);
            }
        }
    }

    private static void againBehindManyTraps() {
        // What calls left on their STACKS when a trap came is gone each time.
        RegisterMill x = mill(0, 0, times(11, "0 1") + "14 1, 15");
        addFunc(x, 0, 0, times(11, "0 1") + "14 1, 15");
        due("check", x.check(), 0);
        x.turn(3);
        for (int i = 0; i < 100; i++) {
            due("trap", x.runStack(20000), 4);
            due("trap", x.runRegisters(20000), 4);
            due("STEPS", x.look(0, 2), 12 * 30);
            due("again", x.again(), true);
        }
    }

    private static void stepsOfTheEdge() {
        RegisterMill x = turned(3, 0, 0, LOOP);
        int[] bad = {MIN, -20000, -1, 0, 20001, 20002, 40000, MAX};
        int[] good = {1, 2, 19999, 20000};
        for (int n : bad) {
            due("runStack(" + n + ")", x.runStack(n), -1);
            due("runRegisters(" + n + ")", x.runRegisters(n), -1);
        }
        dueBegun("refused", x);
        for (int n : good) {
            due("runStack(" + n + ")", x.runStack(n), 0);
            due("runRegisters(" + n + ")", x.runRegisters(n), 0);
        }
        due("STEPS", x.look(0, 2), 40002);
        due("STEPS", x.look(1, 2), 40002);
    }

    private static void refusedRunLeavesAll() {
        RegisterMill x = turned(3, 0, 0, "0 6, 0 7, 5, 15");
        x.runStack(2);
        x.runRegisters(2);
        for (int n : new int[] {MIN, 0, 20001, MAX}) {
            due("refused", x.runStack(n), -1);
            due("refused", x.runRegisters(n), -1);
            due("STEPS", x.look(0, 2), 2);
            due("STEPS", x.look(1, 2), 2);
        }
        dueRun("goes on", x, 1, 42);
        due("refused though it has ended", x.runStack(0), -1);
        due("refused though it has ended", x.runRegisters(20001), -1);
        due("end", x.look(0, 0), 1);
    }

    private static void fewestAndMostSteps() {
        RegisterMill x = turned(3, 0, 0, LOOP);
        due("one", x.runStack(1), 0);
        due("STEPS", x.look(0, 2), 1);
        due("20000", x.runStack(20000), 0);
        due("STEPS", x.look(0, 2), 20001);
        due("the other machine", x.look(1, 2), 0);
        due("20000", x.runRegisters(20000), 0);
        due("STEPS", x.look(1, 2), 20000);
        due("goes on", x.look(1, 0), 0);
        due("within", x.look(1, 4), 1);
    }

    private static void endAtTheLastStep() {
        // The program takes 4 STEPS on both machines with 4 registers.
        for (int n = 1; n <= 6; n++) {
            RegisterMill x = turned(4, 0, 0, "0 6, 0 7, 5, 15");
            due("runStack(" + n + ")", x.runStack(n), n < 4 ? 0 : 1);
            due("runRegisters(" + n + ")", x.runRegisters(n), n < 4 ? 0 : 1);
            for (int machine = 0; machine < 2; machine++) {
                due("STEPS", x.look(machine, 2), Math.min(n, 4));
                due("told", x.look(machine, 1), n < 4 ? 0 : 42);
                due("end", x.look(machine, 0), n < 4 ? 0 : 1);
                due("within", x.look(machine, 4), n < 4 ? 1 : 0);
            }
        }
        // A trap at the last STEP told.
        RegisterMill y = turned(4, 0, 0, "0 6, 0 0, 6, 15");
        due("ahead of the trap", y.runStack(2), 0);
        due("ahead of the trap", y.runRegisters(2), 0);
        due("the trap", y.runStack(1), 2);
        due("the trap", y.runRegisters(1), 2);
        due("its STEP is counted", y.look(0, 2), 3);
        due("its STEP is counted", y.look(1, 2), 3);
    }

    private static void endOfOneStep() {
        RegisterMill x = turned(3, 1, 1, "1 0, 15");
        due("two STEPS", x.runStack(1), 0);
        due("two STEPS", x.runStack(1), 1);
        due("TAKE, TELL", x.runRegisters(1), 0);
        due("TAKE, TELL", x.runRegisters(1), 1);
        due("told", x.look(1, 1), 0);
    }

    private static void endedStaysSo() {
        String[] texts = {"0 7, 15", "0 1, 0 0, 6, 15", "0 64, 16, 15", "14 0, 15"};
        for (int end = 1; end <= 4; end++) {
            RegisterMill x = turned(4, 0, 0, texts[end - 1]);
            dueRun("run", x, end, end == 1 ? 7 : 0);
            int steps = x.look(0, 2);
            int ops = x.look(1, 2);
            int calls = x.look(0, 3);
            for (int n : new int[] {1, 20000}) {
                due("stays " + end, x.runStack(n), end);
                due("stays " + end, x.runRegisters(n), end);
            }
            due("no STEPS more", x.look(0, 2), steps);
            due("no STEPS more", x.look(1, 2), ops);
            due("no calls more", x.look(0, 3), calls);
            due("no calls more", x.look(1, 3), calls);
            due("within none", x.look(0, 4), 0);
            due("within none", x.look(1, 4), 0);
        }
    }

    private static void runsWhenNotChecked() {
        RegisterMill x = new RegisterMill();
        due("new", x.runStack(1), -1);
        addFunc(x, 0, 0, "0 1");
        due("not checked", x.runStack(1), -1);
        x.check();
        due("a fault", x.runStack(1), -1);
        addWords(x, "15");
        due("not checked", x.runStack(20000), -1);
        x.check();
        due("checked", x.runStack(1), 0);
        due("a STEP", x.look(0, 2), 1);
        x.clear();
        due("cleared", x.runStack(1), -1);
    }

    private static void runRegistersWhenNotTurned() {
        RegisterMill x = mill(0, 0, "0 1, 15");
        due("not checked", x.runRegisters(1), -1);
        x.check();
        due("checked alone", x.runRegisters(1), -1);
        x.turn(2);
        due("a refused turn", x.runRegisters(1), -1);
        due("no STEP", x.look(1, 2), 0);
        x.turn(3);
        due("turned", x.runRegisters(1), 0);
        x.clear();
        due("cleared", x.runRegisters(1), -1);
    }

    private static void machinesGoApart() {
        RegisterMill x = turned(4, 0, 0, "0 6, 0 7, 5, 15");
        x.runStack(4);
        due("ended", x.look(0, 0), 1);
        due("the other one has not begun", x.look(1, 3), 0);
        x.runRegisters(2);
        due("the first one's STEPS", x.look(0, 2), 4);
        due("the other one's", x.look(1, 2), 2);
        due("the other one goes on", x.look(1, 0), 0);
    }

    private static void dueWork(int t, int op, int s, int want) {
        RegisterMill x = checked(0, 2, "0 " + t + ", 0 " + s + ", " + op + ", 15");
        for (int r : new int[] {3, 4, 16}) {
            x.turn(r);
            dueRun(t + " op " + op + " " + s, x, 1, want);
        }
    }

    private static void plusWraps() {
        dueWork(MAX, 3, 0, MAX);
        dueWork(MAX, 3, 1, MIN);
        dueWork(MAX, 3, MAX, -2);
        dueWork(MIN, 3, -1, MAX);
        dueWork(MIN, 3, MIN, 0);
        dueWork(MIN, 3, MAX, -1);
    }

    private static void minusWraps() {
        dueWork(MIN, 4, 0, MIN);
        dueWork(MIN, 4, 1, MAX);
        dueWork(MAX, 4, -1, MIN);
        dueWork(0, 4, MIN, MIN);
        dueWork(-1, 4, MIN, MAX);
        dueWork(MIN, 4, MAX, 1);
        dueWork(3, 4, 10, -7);
    }

    private static void timesWraps() {
        dueWork(MIN, 5, -1, MIN);
        dueWork(MAX, 5, -1, -MAX);
        dueWork(MAX, 5, MAX, 1);
        dueWork(MIN, 5, 2, 0);
        dueWork(46341, 5, 46341, -2147479015);
        dueWork(65536, 5, 32768, MIN);
        dueWork(65536, 5, 65536, 0);
        dueWork(MAX, 5, 0, 0);
    }

    private static void divisionCuts() {
        dueWork(7, 6, 2, 3);
        dueWork(-7, 6, 2, -3);
        dueWork(7, 6, -2, -3);
        dueWork(-7, 6, -2, 3);
        dueWork(1, 6, 2, 0);
        dueWork(-1, 6, 2, 0);
        dueWork(0, 6, -5, 0);
        dueWork(MIN, 6, -1, MIN);
        dueWork(MIN, 6, 1, MIN);
        dueWork(MIN, 6, MIN, 1);
        dueWork(MAX, 6, -1, -MAX);
        dueWork(MAX, 6, MIN, 0);
    }

    private static void dueTrap(String text, int end, int stackSteps) {
        RegisterMill x = checked(0, 0, text);
        for (int r : new int[] {3, 16}) {
            x.turn(r);
            dueRun(text, x, end, 0);
            due("its STEP is counted", x.look(0, 2), stackSteps);
            due("within none", x.look(0, 4), 0);
            due("within none", x.look(1, 4), 0);
        }
    }

    private static void divisionByNothing() {
        for (int t : new int[] {MIN, -1, 0, 1, MAX}) {
            dueTrap("0 " + t + ", 0 0, 6, 15", 2, 3);
        }
        // The STEP of a trap, op by op with 16 registers: SET, SET, WORK.
        RegisterMill x = turned(16, 0, 0, "0 1, 0 0, 6, 15");
        due("trap", x.runRegisters(9), 2);
        due("STEPS", x.look(1, 2), 3);
        // Nobody asks what is told, but it traps.
        dueTrap("0 1, 0 0, 6, 11, 0 5, 15", 2, 3);
    }

    private static void lessAndSame() {
        int[] all = {MIN, MIN + 1, -1, 0, 1, MAX - 1, MAX};
        for (int t : all) {
            for (int s : all) {
                dueWork(t, 7, s, t < s ? 1 : 0);
                dueWork(t, 8, s, t == s ? 1 : 0);
            }
        }
    }

    private static void cellsThatAreNone() {
        for (int k : new int[] {MIN, -64, -1, 64, 65, 128, MAX}) {
            dueTrap("0 " + k + ", 16, 15", 3, 2);
            dueTrap("0 " + k + ", 16, 11, 0 1, 15", 3, 2);
            RegisterMill x = turned(3, 0, 0, "0 9, 0 " + k + ", 17, 0 1, 15");
            dueRun("a cell that is none", x, 3, 0);
            due("its STEP is counted", x.look(0, 2), 3);
            for (int cell = 0; cell < 64; cell++) {
                due("no cell became it", x.peek(0, cell), 0);
                due("no cell became it", x.peek(1, cell), 0);
            }
        }
    }

    private static void cellsThatAre() {
        for (int k : new int[] {0, 1, 62, 63}) {
            RegisterMill x = turned(3, 0, 0, "0 -9, 0 " + k + ", 17, 0 " + k + ", 16, 15");
            dueRun("cell " + k, x, 1, -9);
            for (int cell = 0; cell < 64; cell++) {
                due("cell " + cell, x.peek(0, cell), cell == k ? -9 : 0);
                due("cell " + cell, x.peek(1, cell), cell == k ? -9 : 0);
            }
        }
    }

    private static void trapWithinCalls() {
        String[] bodies = {"0 1, 0 0, 6, 15", "0 -1, 16, 15", "14 1, 15"};
        for (int end = 2; end <= 4; end++) {
            RegisterMill x = mill(0, 0, "14 1, 11, 0 9, 15");
            addFunc(x, 0, 0, bodies[end - 2]);
            due("check", x.check(), 0);
            x.turn(3);
            dueRun("a trap ends all", x, end, 0);
            due("within none", x.look(0, 4), 0);
            due("within none", x.look(1, 4), 0);
            due("calls", x.look(0, 3), end == 4 ? 30 : 2);
        }
    }

    /** FUNC 1 calls itself as often as it is told. */
    private static RegisterMill nested(int times) {
        RegisterMill x = mill(0, 0, "0 " + times + ", 14 1, 15");
        addFunc(x, 1, 1, "1 0, 13 7, 1 0, 0 1, 4, 14 1, 15, 0 77, 15");
        due("check", x.check(), 0);
        return x;
    }

    private static void thirtyCallsAndOneMore() {
        for (int within = 29; within <= 32; within++) {
            RegisterMill x = nested(within - 2);
            for (int r : new int[] {3, 5, 16}) {
                x.turn(r);
                boolean fits = within <= 30;
                dueRun(within + " calls within one another", x, fits ? 1 : 4, fits ? 77 : 0);
                due("calls made", x.look(0, 3), Math.min(within, 30));
                due("calls made", x.look(1, 3), Math.min(within, 30));
            }
        }
        // Each STEP is one call: the 30th STEP is the 31st call.
        RegisterMill y = turned(3, 0, 0, "14 0, 15");
        due("30 within one another", y.runStack(29), 0);
        due("30 within one another", y.runRegisters(29), 0);
        due("within", y.look(0, 4), 30);
        due("within", y.look(1, 4), 30);
        due("the 31st", y.runStack(1), 4);
        due("the 31st", y.runRegisters(1), 4);
        due("its STEP is counted", y.look(0, 2), 30);
        due("its STEP is counted", y.look(1, 2), 30);
        due("it is not made", y.look(0, 3), 30);
        due("within none", y.look(1, 4), 0);
    }

    private static void thirtyFullCalls() {
        RegisterMill x = mill(0, 0, "0 28, 14 1, 15");
        addFunc(x, 1, 10, "1 0, 13 31, 1 0, 0 1, 4, 2 0, " + times(11, "0 1") + "1 0, 14 1, " + times(11, "3")
            + "15, 0 0, 15");
        due("check", x.check(), 0);
        due("a full STACK", x.depth(1, 18), 12);
        for (int r : new int[] {3, 4, 8, 16}) {
            x.turn(r);
            dueRun("30 calls with full STACKS", x, 1, 308);
            due("calls", x.look(1, 3), 30);
        }
    }

    private static void callsBehindOneAnother() {
        RegisterMill x = mill(0, 1, "0 1000, 2 0, 14 1, 11, 1 0, 0 1, 4, 9, 2 0, 13 11, 12 2, 1 0, 15");
        addFunc(x, 0, 0, "0 5, 15");
        due("check", x.check(), 0);
        x.turn(3);
        dueRun("1000 calls behind one another", x, 1, 0);
        due("calls", x.look(0, 3), 1001);
        due("calls", x.look(1, 3), 1001);
        due("STEPS", x.look(0, 2), 11003);
    }

    private static void mainWithinMain() {
        // A call of FUNC 0 by a 14 is a call like others; the first one's 15 is the end.
        RegisterMill x = turned(3, 0, 0, "0 0, 16, 13 5, 0 7, 15, 0 1, 0 0, 17, 14 0, 0 1, 3, 15");
        dueRun("main within main", x, 1, 8);
        due("calls", x.look(1, 3), 2);
    }

    private static void localsAreNothingAtFirst() {
        // Each call adds 5 to its LOCALS 0 and 9 and tells them; none sees an earlier one's.
        RegisterMill x = mill(0, 0, "14 1, 14 1, 14 1, 3, 3, 15");
        addFunc(x, 0, 10, "1 0, 0 5, 3, 2 0, 1 9, 0 5, 3, 2 9, 1 0, 1 9, 3, 15");
        due("check", x.check(), 0);
        for (int r : new int[] {3, 5, 16}) {
            x.turn(r);
            dueRun("LOCALS anew", x, 1, 30);
        }
        // ARGS of main are 0, and what comes behind ARGS is 0.
        RegisterMill y = mill(2, 2, "1 0, 1 1, 3, 0 8, 14 1, 3, 15");
        addFunc(y, 1, 2, "1 0, 1 1, 4, 15");
        due("check", y.check(), 0);
        for (int i = 0; i < 2; i++) {
            y.turn(3);
            dueRun("ARGS and what is behind", y, 1, 8);
        }
    }

    private static void toldOfTheEdge() {
        for (int v : new int[] {MIN, -1, 0, 1, 4, MAX}) {
            RegisterMill x = turned(3, 0, 0, "0 " + v + ", 15");
            due("ahead", x.look(0, 1), 0);
            dueRun("told", x, 1, v);
            due("the end is 1 whatever is told", x.look(1, 0), 1);
        }
    }

    private static void looksOfTheEdge() {
        RegisterMill x = turned(3, 0, 0, "0 9, 15");
        x.runStack(9);
        x.runRegisters(9);
        int[] want = {1, 9, 2, 1, 0};
        for (int machine = -2; machine <= 3; machine++) {
            for (int what = -2; what <= 6; what++) {
                boolean none = machine < 0 || machine > 1 || what < 0 || what > 4;
                due("look(" + machine + ", " + what + ")", x.look(machine, what), none ? -1 : want[what]);
            }
        }
        for (int far : new int[] {MIN, MAX}) {
            due("look", x.look(far, 0), -1);
            due("look", x.look(0, far), -1);
            due("look", x.look(1, far), -1);
        }
        due("a new object's", new RegisterMill().look(2, 0), -1);
        due("a new object's", new RegisterMill().look(0, 5), -1);
    }

    private static void looksAlongARun() {
        RegisterMill x = mill(0, 0, "14 1, 15");
        addFunc(x, 0, 0, "14 2, 15");
        addFunc(x, 0, 0, "0 3, 15");
        due("check", x.check(), 0);
        dueBegun("checked", x);
        x.turn(3);
        dueBegun("turned", x);
        int[] within = {2, 3, 3, 2, 1, 0};
        int[] calls = {2, 3, 3, 3, 3, 3};
        for (int i = 0; i < 6; i++) {
            due("a STEP", x.runStack(1), i == 5 ? 1 : 0);
            due("within", x.look(0, 4), within[i]);
            due("calls", x.look(0, 3), calls[i]);
            due("told", x.look(0, 1), i == 5 ? 3 : 0);
        }
        // CALL CALL SET TELL GET TELL GET TELL
        int[] ops = {2, 3, 3, 2, 2, 1, 1, 0};
        for (int i = 0; i < 8; i++) {
            due("a STEP", x.runRegisters(1), i == 7 ? 1 : 0);
            due("within", x.look(1, 4), ops[i]);
        }
    }

    private static void countsOfTheEdge() {
        RegisterMill x = turned(16, 0, 0, "0 1, 15");
        int[] want = {1, 2, 1, 16, 2};
        for (int what = -3; what <= 8; what++) {
            due("count(" + what + ")", x.count(what), what < 0 || what > 4 ? -1 : want[what]);
        }
        due("count", x.count(MIN), -1);
        due("count", x.count(MAX), -1);
        due("a new object's", new RegisterMill().count(5), -1);
        due("a new object's", new RegisterMill().count(-1), -1);
    }

    private static void dueCounts(String what, RegisterMill x, int... want) {
        for (int k = 0; k < 5; k++) {
            due(what + ": count " + k, x.count(k), want[k]);
        }
    }

    private static void countsAlong() {
        RegisterMill x = new RegisterMill();
        dueCounts("new", x, 0, 0, 0, 0, 0);
        x.func(0, 0);
        dueCounts("a FUNC", x, 1, 0, 0, 0, 0);
        addWords(x, "0 1, 14 1");
        dueCounts("WORDS", x, 1, 2, 0, 0, 0);
        x.check();
        dueCounts("a fault", x, 1, 2, 0, 0, 0);
        addWords(x, "15");
        addFunc(x, 1, 1, "1 0, 15");
        dueCounts("two FUNCS", x, 2, 5, 0, 0, 0);
        x.check();
        dueCounts("checked", x, 2, 5, 1, 0, 0);
        x.turn(2);
        dueCounts("a refused turn", x, 2, 5, 1, 0, 0);
        x.turn(3);
        dueCounts("turned", x, 2, 5, 1, 3, 7);
        x.turn(16);
        dueCounts("turned anew", x, 2, 5, 1, 16, 7);
        x.again();
        dueCounts("again", x, 2, 5, 1, 16, 7);
        x.clear();
        dueCounts("cleared", x, 0, 0, 0, 0, 0);
    }

    private static void lastOf512Calls() {
        RegisterMill x = new RegisterMill();
        int calls = 0;
        x.func(0, 0);
        x.word(12, 0);
        x.check();
        x.turn(3);
        calls += 4;
        for (; calls < 511; calls++) {
            due("run", calls % 2 == 0 ? x.runStack(20000) : x.runRegisters(20000), 0);
        }
        due("the 512th", x.look(0, 2), 254 * 20000);
    }

    private static void programsOverAndOver() {
        RegisterMill x = new RegisterMill();
        for (int i = 0; i < 51; i++) {
            x.clear();
            due("FUNC", x.func(0, 0), 0);
            due("WORD", x.word(0, i), 0);
            due("WORD", x.word(15, 0), 1);
            due("check", x.check(), 0);
            due("turn", x.turn(3 + i % 14), 2);
            due("runStack", x.runStack(2), 1);
            due("runRegisters", x.runRegisters(2), 1);
            due("told", x.look(0, 1), i);
            due("told", x.look(1, 1), i);
        }
    }
}
