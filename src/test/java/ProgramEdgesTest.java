/** Boundary cases of promises 1 to 6: what is taken last and refused first, the empty and the full, CHECK's faults. */
public final class ProgramEdgesTest extends Cases {
    /** How many each op takes from the STACK and puts on it; 14 takes ARGS besides. */
    private static final int[] TAKES = {0, 0, 1, 2, 2, 2, 2, 2, 2, 1, 2, 1, 0, 1, 0, 1, 1, 2};
    private static final int[] PUTS = {1, 1, 0, 1, 1, 1, 1, 1, 1, 2, 2, 0, 0, 0, 1, 0, 1, 0};

    public static void main(String[] args) {
        newObjectIsEmpty();
        newObjectsShareNothing();
        everyPairOfArgsAndLocals();
        farArgsAndLocals();
        twelfthFuncAndThirteenth();
        refusedFuncLeavesTheLatest();
        funcWhenChecked();
        wordWithoutFunc();
        wordOfAnyOpAndNumber();
        wordNumbersOfEachFunc();
        threeHundredWordsOfOneFunc();
        threeHundredWordsOfTwelveFuncs();
        funcBehindThreeHundredWords();
        wordsAfterClear();
        wordWhenChecked();
        checkWithoutFunc();
        checkWithoutWords();
        opsThatAreNone();
        numbersOfLocals();
        numbersOfWords();
        numbersOfFuncs();
        numbersThatMayBeAny();
        everyOpAtEveryDepth();
        callsOfEveryArgsAtEveryDepth();
        noneBehindTheLast();
        otherDepths();
        orderOfFaultsInOneWord();
        orderOfWords();
        whatNobodyReaches();
        greatestFaults();
        faultLeavesItUnchecked();
        faultMended();
        checkOfAChecked();
        depthOfWords();
        depthOfFuncs();
        depthsFromEmptyToFull();
        depthWhenNotChecked();
        clearOfANewObject();
        clearOfAFault();
        clearWithinARun();
        clearOfTheFull();
        finish("ProgramEdgesTest");
    }

    private static void newObjectIsEmpty() {
        RegisterMill x = new RegisterMill();
        for (int what = 0; what < 5; what++) {
            due("new: count " + what, x.count(what), 0);
        }
        due("new: first FUNC is 0", x.func(0, 0), 0);
        due("new: first WORD is 0", x.word(0, 0), 0);
    }

    private static void newObjectsShareNothing() {
        RegisterMill x = turned(3, 0, 0, "0 5, 0 9, 17, 0 5, 15");
        x.cell(3, 33);
        x.runStack(9);
        x.runRegisters(9);
        RegisterMill y = new RegisterMill();
        due("another object's FUNCS", y.count(0), 0);
        due("another object's cells", y.peek(0, 3), 0);
        due("another object's cells", y.peek(1, 9), 0);
        y.clear();
        due("the first one's FUNCS", x.count(0), 1);
        due("the first one's cells", x.peek(1, 3), 33);
        due("the first one's answer", x.look(1, 1), 5);
    }

    private static void everyPairOfArgsAndLocals() {
        for (int args = -2; args <= 8; args++) {
            for (int locals = -2; locals <= 12; locals++) {
                boolean taken = args >= 0 && args <= 6 && locals >= args && locals <= 10;
                RegisterMill x = new RegisterMill();
                due("func(" + args + ", " + locals + ")", x.func(args, locals), taken ? 0 : -1);
                due("FUNCS", x.count(0), taken ? 1 : 0);
            }
        }
    }

    private static void farArgsAndLocals() {
        int[] far = {MIN, MIN + 1, -65536, 65536, MAX - 1, MAX};
        RegisterMill x = new RegisterMill();
        for (int one : far) {
            due("func(" + one + ", 10)", x.func(one, 10), -1);
            due("func(0, " + one + ")", x.func(0, one), -1);
            for (int other : far) {
                due("func(" + one + ", " + other + ")", x.func(one, other), -1);
            }
        }
        due("FUNCS", x.count(0), 0);
    }

    private static void twelfthFuncAndThirteenth() {
        RegisterMill x = new RegisterMill();
        for (int f = 0; f < 11; f++) {
            addFunc(x, 0, 0, "14 " + (f + 1) + ", 15");
        }
        due("the 12th", x.func(6, 10), 11);
        due("the 13th", x.func(0, 0), -1);
        due("the 14th", x.func(0, 0), -1);
        due("FUNCS", x.count(0), 12);
        due("a WORD behind the 13th is the 12th's", x.word(0, 4), 0);
        due("a WORD more", x.word(15, 0), 1);
        // FUNC 10 calls the 12th, whose ARGS are 6: they stay what they were, too.
        due("the 12th keeps its ARGS", x.check(), 2 + 8 * 10);
    }

    private static void refusedFuncLeavesTheLatest() {
        RegisterMill x = mill(0, 1, "1 0");
        due("refused", x.func(7, 10), -1);
        due("refused", x.func(0, 11), -1);
        due("the latest goes on", x.word(15, 0), 1);
        due("the next one's number", x.func(1, 1), 1);
        due("its first WORD", x.word(1, 0), 0);
        addWords(x, "15");
        due("check", x.check(), 0);
        due("LOCALS stay", x.turn(3) > 0, true);
    }

    private static void funcWhenChecked() {
        RegisterMill x = mill(0, 0, "0 1, 15");
        due("ahead of check", x.func(0, 0), 1);
        addWords(x, "0 1, 15");
        due("check", x.check(), 0);
        due("checked", x.func(0, 0), -1);
        x.turn(3);
        due("turned", x.func(0, 0), -1);
        due("FUNCS", x.count(0), 2);
        x.clear();
        due("cleared", x.func(0, 0), 0);
    }

    private static void wordWithoutFunc() {
        RegisterMill x = new RegisterMill();
        due("no FUNC", x.word(0, 0), -1);
        x.func(-1, 0);
        due("a refused FUNC is none", x.word(0, 0), -1);
        due("WORDS", x.count(1), 0);
        x.func(0, 0);
        due("a FUNC", x.word(0, 0), 0);
        x.clear();
        due("no FUNC any more", x.word(0, 0), -1);
        due("WORDS", x.count(1), 0);
    }

    private static void wordOfAnyOpAndNumber() {
        RegisterMill x = new RegisterMill();
        x.func(0, 0);
        int[] any = {MIN, -1, 0, 17, 18, 300, MAX};
        int next = 0;
        for (int op : any) {
            for (int n : any) {
                due("word(" + op + ", " + n + ")", x.word(op, n), next);
                next++;
            }
        }
        due("WORDS", x.count(1), next);
    }

    private static void wordNumbersOfEachFunc() {
        RegisterMill x = new RegisterMill();
        for (int f = 0; f < 12; f++) {
            x.func(0, 0);
            for (int w = 0; w <= f; w++) {
                due("numbered from 0", x.word(0, 0), w);
            }
        }
        due("WORDS of all", x.count(1), 78);
    }

    private static void threeHundredWordsOfOneFunc() {
        RegisterMill x = new RegisterMill();
        x.func(0, 0);
        for (int w = 0; w < 298; w++) {
            x.word(w % 2 == 0 ? 0 : 11, 0);
        }
        due("the 299th", x.word(0, 77), 298);
        due("the 300th", x.word(15, 0), 299);
        due("the 301st", x.word(99, 99), -1);
        due("the 302nd", x.word(99, 99), -1);
        due("WORDS", x.count(1), 300);
        due("the refused ones are not there", x.check(), 0);
        due("DEPTH of the last", x.depth(0, 299), 1);
        due("none behind it", x.depth(0, 300), -1);
        due("run", x.runStack(300), 1);
        due("told", x.look(0, 1), 77);
        due("STEPS", x.look(0, 2), 300);
    }

    private static void threeHundredWordsOfTwelveFuncs() {
        RegisterMill x = new RegisterMill();
        for (int f = 0; f < 12; f++) {
            x.func(0, 0);
            for (int w = 0; w < 23; w++) {
                x.word(w % 2 == 0 ? 0 : 11, f);
            }
            due("the 24th of FUNC " + f, x.word(9, 0), 23);
            due("the 25th of FUNC " + f, x.word(15, 0), 24);
        }
        due("the 301st", x.word(0, 0), -1);
        due("WORDS", x.count(1), 300);
        due("check", x.check(), 0);
        due("DEPTH of the last of all", x.depth(11, 24), 2);
        due("none behind it", x.depth(11, 25), -1);
        due("of the first FUNC's next", x.depth(0, 25), -1);
        due("turn", x.turn(3), 24);
    }

    private static void funcBehindThreeHundredWords() {
        RegisterMill x = new RegisterMill();
        x.func(0, 0);
        for (int w = 0; w < 300; w++) {
            x.word(12, 0);
        }
        due("a FUNC is still taken", x.func(0, 0), 1);
        due("but no WORD of it", x.word(12, 0), -1);
        due("so it has none", x.check(), 6 + 8);
        due("WORDS", x.count(1), 300);
    }

    private static void wordsAfterClear() {
        RegisterMill x = new RegisterMill();
        x.func(0, 0);
        for (int w = 0; w < 190; w++) {
            x.word(99, 99);
        }
        x.clear();
        x.func(0, 0);
        for (int w = 0; w < 299; w++) {
            x.word(12, 0);
        }
        due("300 again", x.word(12, 0), 299);
        due("and no more", x.word(12, 0), -1);
    }

    private static void wordWhenChecked() {
        RegisterMill x = mill(0, 0, "0 1, 15");
        due("ahead of check", x.word(15, 0), 2);
        due("check", x.check(), 0);
        due("checked", x.word(15, 0), -1);
        x.turn(3);
        due("turned", x.word(15, 0), -1);
        due("WORDS", x.count(1), 3);
        due("none is there", x.depth(0, 3), -1);
    }

    private static void checkWithoutFunc() {
        RegisterMill x = new RegisterMill();
        due("no FUNC", x.check(), 7);
        due("not checked", x.count(2), 0);
        x.func(7, 7);
        due("a refused one is none", x.check(), 7);
        x.func(0, 0);
        due("a FUNC", x.check(), 6);
        x.clear();
        due("no FUNC any more", x.check(), 7);
    }

    private static void checkWithoutWords() {
        for (int empty = 0; empty < 12; empty++) {
            RegisterMill x = new RegisterMill();
            for (int f = 0; f < 12; f++) {
                x.func(0, 0);
                if (f != empty) {
                    // A fault of each other FUNC, ahead and behind: this one is asked ahead of them.
                    x.word(99, 0);
                }
            }
            due("FUNC " + empty + " has none", x.check(), 6 + 8 * empty);
            due("not checked", x.count(2), 0);
        }
        RegisterMill x = new RegisterMill();
        x.func(0, 0);
        x.func(0, 0);
        due("the first of two", x.check(), 6);
    }

    private static void dueFault(String text, int kind, int word) {
        dueFault(0, 1, text, kind, word);
    }

    private static void dueFault(int args, int locals, String text, int kind, int word) {
        RegisterMill x = mill(args, locals, text);
        due("fault of " + text, x.check(), kind == 0 ? 0 : kind + 128 * word);
        due("checked: " + text, x.count(2), kind == 0 ? 1 : 0);
    }

    private static void opsThatAreNone() {
        for (int op : new int[] {MIN, -18, -2, -1, 18, 19, 32, 64, 256, MAX}) {
            dueFault("0 1, 0 1, " + op + " 0, 15", 1, 2);
        }
        dueFault("0 1, 0 0, 15", 0, 0);
        dueFault("0 1, 0 0, 17, 12 0", 0, 0);
    }

    private static void numbersOfLocals() {
        for (int locals : new int[] {1, 2, 9, 10}) {
            for (int n : new int[] {MIN, -1, locals, locals + 1, 12, MAX}) {
                dueFault(0, locals, "1 " + n + ", 15", 1, 0);
                dueFault(0, locals, "0 1, 2 " + n + ", 12 0", 1, 1);
            }
            for (int n : new int[] {0, locals - 1}) {
                dueFault(0, locals, "1 " + n + ", 15", 0, 0);
                dueFault(0, locals, "0 1, 2 " + n + ", 12 0", 0, 0);
            }
        }
        dueFault(0, 0, "1 0, 15", 1, 0);
        dueFault(0, 0, "0 1, 2 0, 12 0", 1, 1);
        // The ARGS are the first of the LOCALS.
        dueFault(6, 6, "1 5, 15", 0, 0);
        dueFault(6, 6, "1 6, 15", 1, 0);
        dueFault(6, 10, "1 9, 15", 0, 0);
        dueFault(6, 10, "1 10, 15", 1, 0);
    }

    private static void numbersOfWords() {
        for (int n : new int[] {MIN, -1, 3, 4, 300, MAX}) {
            dueFault("0 1, 11, 12 " + n, 1, 2);
            dueFault("0 1, 13 " + n + ", 12 0", 1, 1);
        }
        for (int n : new int[] {0, 2}) {
            dueFault("0 1, 11, 12 " + n, 0, 0);
            dueFault("0 1, 13 " + n + ", 12 0", 0, 0);
        }
        // A WORD of another FUNC is none of this one.
        RegisterMill x = mill(0, 0, "12 1");
        addFunc(x, 0, 0, "12 0");
        due("a WORD of the next FUNC", x.check(), 1);
        RegisterMill y = mill(0, 0, "12 0");
        addFunc(y, 0, 0, "12 -1");
        due("a WORD of the FUNC ahead", y.check(), 1 + 8);
    }

    private static void numbersOfFuncs() {
        for (int n : new int[] {MIN, -1, 1, 2, 11, 12, MAX}) {
            dueFault("14 " + n + ", 15", 1, 0);
        }
        dueFault("14 0, 15", 0, 0);
        for (int n = 10; n <= 13; n++) {
            RegisterMill x = new RegisterMill();
            for (int f = 0; f < 12; f++) {
                addFunc(x, 0, 0, "14 " + (f == 11 ? n : f) + ", 15");
            }
            due("the last of 12 calls " + n, x.check(), n < 12 ? 0 : 1 + 8 * 11);
        }
    }

    private static void numbersThatMayBeAny() {
        for (int n : new int[] {MIN, -1, 64, 300, MAX}) {
            for (int op : new int[] {0, 3, 4, 5, 6, 7, 8, 9, 10, 11, 16}) {
                dueFault("0 " + n + ", 0 " + n + ", " + op + " " + n + ", 15 " + n, 0, 0);
            }
            dueFault("0 " + n + ", 0 " + n + ", 17 " + n + ", 12 0", 0, 0);
        }
    }

    /** So many on the STACK, then the op, then an end that fits. */
    private static String opAt(int depth, int op, int n, int behind) {
        String end = op == 12 || op == 15 ? "" : behind > 0 ? ", 15" : ", 0 1, 15";
        return times(depth, "0 1") + op + " " + n + end;
    }

    private static int kindAt(int depth, int takes, int puts) {
        if (depth < takes) {
            return 2;
        }
        return depth - takes + puts > 12 ? 3 : 0;
    }

    private static void everyOpAtEveryDepth() {
        for (int op = 0; op <= 17; op++) {
            if (op == 14) {
                continue;
            }
            for (int depth = 0; depth <= 12; depth++) {
                int n = op == 12 ? depth : op == 13 ? depth + 1 : 0;
                int behind = depth - TAKES[op] + PUTS[op];
                dueFault(opAt(depth, op, n, behind), kindAt(depth, TAKES[op], PUTS[op]), depth);
            }
        }
    }

    private static void callsOfEveryArgsAtEveryDepth() {
        for (int args = 0; args <= 6; args++) {
            for (int depth = 0; depth <= 12; depth++) {
                RegisterMill x = mill(0, 0, opAt(depth, 14, 1, depth - args + 1));
                addFunc(x, args, 10, "1 0, 15");
                int kind = kindAt(depth, args, 1);
                due("a call of " + args + " ARGS at " + depth, x.check(), kind == 0 ? 0 : kind + 128 * depth);
            }
        }
    }

    private static void noneBehindTheLast() {
        for (int op = 0; op <= 17; op++) {
            boolean ends = op == 12 || op == 15;
            dueFault("0 1, 0 1, " + op + " " + (op == 12 ? 2 : 0), ends ? 0 : 4, 2);
        }
        // 13 may go back, but what is next to it is none.
        dueFault("0 1, 13 0", 4, 1);
        // The next FUNC's WORDS are not next.
        RegisterMill x = mill(0, 0, "0 1");
        addFunc(x, 0, 0, "0 1, 15");
        due("the next FUNC's WORD", x.check(), 4);
        RegisterMill y = mill(0, 0, "0 1, 15");
        addFunc(y, 0, 0, "0 1, 9");
        due("the last of the last FUNC", y.check(), 4 + 8 + 128);
    }

    private static void otherDepths() {
        // On to WORD 0, which has DEPTH 0.
        dueFault("12 0", 0, 0);
        dueFault("0 1, 12 0", 5, 1);
        dueFault("0 1, 11, 12 0", 0, 0);
        dueFault("0 1, 13 0, 12 0", 0, 0);
        dueFault("0 1, 0 1, 13 0, 15", 5, 2);
        // On to itself: 12 changes nothing, 13 takes one.
        dueFault("0 1, 12 1", 0, 0);
        dueFault("0 1, 0 1, 13 2, 15", 5, 2);
        // The next one has another, one more and one fewer.
        dueFault("0 1, 13 3, 0 1, 0 1, 15", 5, 2);
        dueFault("0 1, 0 1, 13 4, 11, 15", 5, 3);
        // The same by two ways.
        dueFault("0 1, 13 4, 0 1, 12 5, 0 2, 15", 0, 0);
        // 13 to the next one: both ways are one.
        dueFault("0 1, 13 2, 0 1, 15", 0, 0);
    }

    private static void orderOfFaultsInOneWord() {
        String full = times(12, "0 1");
        dueFault(0, 0, "2 0", 1, 0);
        dueFault(0, 0, "13 1", 1, 0);
        dueFault(0, 0, full + "1 0", 1, 12);
        dueFault(0, 0, full + "14 1", 1, 12);
        dueFault(0, 0, "3", 2, 0);
        dueFault(0, 0, "0 1, 10", 2, 1);
        dueFault(0, 0, full + "0 1", 3, 12);
        dueFault(0, 0, full + "9", 3, 12);
        // 3 ahead of 5: what is next has another DEPTH already.
        dueFault(0, 0, "0 0, 13 15, " + full + "0 1, 12 0", 3, 14);
        // 4 ahead of 5: 13 is the last, and where it goes has another.
        dueFault(0, 0, "0 1, 0 1, 13 0", 4, 2);
    }

    private static void orderOfWords() {
        // Two ways from a 13: the next one is less than n.
        dueFault("0 1, 13 3, 98, 99", 1, 2);
        // n is less than the next one.
        dueFault("12 2, 98, 0 1, 13 1, 99", 1, 1);
        // WORD 5 waits since WORD 1; WORDS 2 to 4 come ahead of it though found later.
        dueFault("0 1, 13 5, 0 1, 11, 98, 99", 1, 4);
        // WORD 1 is found last and comes ahead of WORD 6, which waits.
        dueFault("12 2, 98, 0 1, 13 6, 0 1, 13 1, 99", 1, 1);
        // Of two that meet, the one gone through later is at fault: WORD 5, not WORD 2.
        dueFault("0 1, 13 4, 0 1, 12 6, 0 1, 0 1, 15", 5, 5);
    }

    private static void whatNobodyReaches() {
        dueFault("0 1, 15, -1", 0, 0);
        dueFault("0 1, 15, 0 1", 0, 0);
        dueFault("12 2, 99, 0 1, 15, 13 77, 3", 0, 0);
        // A WORD behind a 12 or 15 that nobody goes to has no DEPTH, so it can't clash.
        dueFault("0 1, 12 3, 0 1, 15", 0, 0);
        // A FUNC that nobody calls is looked at all the same.
        RegisterMill x = mill(0, 0, "0 1, 15");
        addFunc(x, 0, 0, "15");
        due("a FUNC that nobody calls", x.check(), 2 + 8);
        RegisterMill y = mill(0, 0, "3");
        addFunc(y, 0, 0, "99");
        due("the first FUNC's fault", y.check(), 2);
    }

    private static void greatestFaults() {
        RegisterMill x = new RegisterMill();
        x.func(0, 0);
        addWords(x, times(149, "0 1, 11") + "0 1, 11");
        due("kind 4 in WORD 299", x.check(), 4 + 128 * 299);
        RegisterMill y = new RegisterMill();
        for (int f = 0; f < 11; f++) {
            addFunc(y, 0, 0, "12 0");
        }
        addFunc(y, 0, 0, times(144, "0 1, 11") + "3");
        due("kind 2 in WORD 288 of FUNC 11", y.check(), 2 + 8 * 11 + 128 * 288);
        RegisterMill z = new RegisterMill();
        for (int f = 0; f < 11; f++) {
            addFunc(z, 0, 0, "12 0");
        }
        addFunc(z, 0, 0, times(144, "0 1, 11") + "12 288");
        due("none in any", z.check(), 0);
    }

    private static void faultLeavesItUnchecked() {
        RegisterMill x = mill(0, 0, "0 1, 9, 3, 3, 15");
        due("fault", x.check(), 2 + 128 * 3);
        due("count", x.count(2), 0);
        due("depth", x.depth(0, 0), -1);
        due("turn", x.turn(3), -1);
        due("again", x.again(), false);
        due("runStack", x.runStack(1), -1);
        due("runRegisters", x.runRegisters(1), -1);
        due("the same fault", x.check(), 2 + 128 * 3);
    }

    private static void faultMended() {
        RegisterMill x = mill(0, 0, "0 6");
        due("none behind the last", x.check(), 4);
        due("a WORD more", x.word(9, 0), 1);
        due("none behind the last", x.check(), 4 + 128);
        due("a WORD more", x.word(14, 1), 2);
        due("no such FUNC", x.check(), 1 + 128 * 2);
        due("a FUNC more", x.func(2, 2), 1);
        due("it has no WORDS", x.check(), 6 + 8);
        addWords(x, "1 0, 1 1, 5, 15");
        due("main has no end", x.check(), 4 + 128 * 2);
        x.clear();
        addFunc(x, 0, 0, "0 6, 9, 14 1, 15");
        addFunc(x, 2, 2, "1 0, 1 1, 5, 15");
        due("mended", x.check(), 0);
        due("checked from now on", x.count(2), 1);
        due("run", x.runStack(20), 1);
        due("told", x.look(0, 1), 36);
    }

    private static void checkOfAChecked() {
        RegisterMill x = turned(4, 0, 0, "0 6, 0 7, 3, 15");
        x.runStack(2);
        x.runRegisters(3);
        due("check", x.check(), 0);
        due("R stays", x.count(3), 4);
        due("the stack machine stays", x.look(0, 2), 2);
        due("the register machine stays", x.look(1, 2), 3);
        dueRun("and goes on", x, 1, 13);
    }

    private static void depthOfWords() {
        RegisterMill x = checked(0, 0, "0 1, 0 1, 3, 15, 99");
        int[] want = {0, 1, 2, 1, -1};
        for (int w = 0; w < want.length; w++) {
            due("depth of " + w, x.depth(0, w), want[w]);
        }
        for (int w : new int[] {MIN, -2, -1, 5, 6, 299, 300, MAX}) {
            due("depth of " + w, x.depth(0, w), -1);
        }
    }

    private static void depthOfFuncs() {
        RegisterMill x = new RegisterMill();
        for (int f = 0; f < 12; f++) {
            addFunc(x, 0, 0, times(f, "0 1") + "0 1, 15");
        }
        due("check", x.check(), 0);
        for (int f = 0; f < 12; f++) {
            due("the first of " + f, x.depth(f, 0), 0);
            due("the last of " + f, x.depth(f, f + 1), f + 1);
            due("behind the last of " + f, x.depth(f, f + 2), -1);
            due("ahead of the first of " + f, x.depth(f, -1), -1);
        }
        for (int f : new int[] {MIN, -2, -1, 12, 13, MAX}) {
            due("depth of FUNC " + f, x.depth(f, 0), -1);
        }
        RegisterMill y = checked(0, 0, "0 1, 15");
        due("a FUNC more than there are", y.depth(1, 0), -1);
    }

    private static void depthsFromEmptyToFull() {
        RegisterMill x = checked(0, 0, times(12, "0 1") + times(11, "11") + "15");
        for (int w = 0; w <= 12; w++) {
            due("depth of " + w, x.depth(0, w), w);
        }
        for (int w = 12; w <= 23; w++) {
            due("depth of " + w, x.depth(0, w), 24 - w);
        }
    }

    private static void depthWhenNotChecked() {
        RegisterMill x = new RegisterMill();
        due("no FUNC", x.depth(0, 0), -1);
        addFunc(x, 0, 0, "0 1, 9");
        due("ahead of check", x.depth(0, 0), -1);
        due("check", x.check(), 4 + 128);
        due("found, but not checked", x.depth(0, 1), -1);
        addWords(x, "15");
        due("check", x.check(), 0);
        due("checked", x.depth(0, 2), 2);
        x.clear();
        due("cleared", x.depth(0, 2), -1);
        addFunc(x, 0, 0, "0 1, 15");
        due("a new program, not checked", x.depth(0, 1), -1);
        due("check", x.check(), 0);
        due("the old one's WORD", x.depth(0, 2), -1);
    }

    private static void dueCleared(String what, RegisterMill x) {
        for (int k = 0; k < 5; k++) {
            due(what + ": count " + k, x.count(k), 0);
            due(what + ": look at the stack machine " + k, x.look(0, k), 0);
            due(what + ": look at the register machine " + k, x.look(1, k), 0);
        }
        for (int k = 0; k < 64; k++) {
            due(what + ": cell " + k, x.peek(0, k), 0);
            due(what + ": cell " + k, x.peek(1, k), 0);
        }
        due(what + ": op", opThrows(x, 0, 0, 0), true);
        due(what + ": size", x.size(0), -1);
        due(what + ": value", x.value(0, 0, 0), -1);
        due(what + ": slots", x.slots(0), -1);
        due(what + ": places", x.places(0), -1);
        due(what + ": turn", x.turn(3), -1);
        due(what + ": again", x.again(), false);
        due(what + ": runStack", x.runStack(1), -1);
        due(what + ": runRegisters", x.runRegisters(1), -1);
        due(what + ": word", x.word(0, 0), -1);
        due(what + ": check", x.check(), 7);
        due(what + ": func", x.func(0, 0), 0);
    }

    private static void clearOfANewObject() {
        RegisterMill x = new RegisterMill();
        x.clear();
        dueCleared("new", x);
        RegisterMill y = new RegisterMill();
        y.cell(0, 1);
        y.cell(63, 1);
        y.clear();
        y.clear();
        dueCleared("cells alone", y);
    }

    private static void clearOfAFault() {
        RegisterMill x = mill(0, 0, "0 1, 3");
        x.check();
        x.clear();
        dueCleared("fault", x);
    }

    private static void clearWithinARun() {
        RegisterMill x = mill(0, 0, "0 5, 0 63, 17, 14 1, 15");
        addFunc(x, 0, 1, "0 6, 0 0, 17, 1 0, 0 8, 3, 15");
        due("check", x.check(), 0);
        x.turn(3);
        x.runStack(9);
        x.runRegisters(18);
        due("within a call", x.look(0, 4), 2);
        due("within a call", x.look(1, 4), 2);
        x.clear();
        dueCleared("within a run", x);
        addWords(x, "0 3, 15");
        due("check", x.check(), 0);
        due("turn", x.turn(3), 2);
        dueRun("a new program from its first WORD", x, 1, 3);
        due("its STEPS", x.look(0, 2), 2);
        due("its calls", x.look(0, 3), 1);
    }

    private static void clearOfTheFull() {
        RegisterMill x = new RegisterMill();
        for (int f = 0; f < 12; f++) {
            x.func(6, 10);
            for (int w = 0; w < 24; w++) {
                x.word(12, 0);
            }
        }
        due("check", x.check(), 0);
        x.turn(16);
        x.clear();
        dueCleared("full", x);
    }
}
