import java.util.NoSuchElementException;
import java.util.StringJoiner;

/** What tests by hand share: answers that are due, programs written as texts, code read back as a text. */
abstract class Cases {
    static final int MIN = Integer.MIN_VALUE;
    static final int MAX = Integer.MAX_VALUE;

    private static final String[] NAMES = {
        "SET", "MOVE", "WORK", "SWAP", "GO", "IFNOT", "TELL", "READ", "WRITE",
        "LOAD", "SAVE", "TAKE", "PASS", "CALL", "GET"
    };
    private static final int[] PARTS = {2, 2, 4, 2, 1, 2, 1, 2, 2, 2, 2, 2, 2, 1, 1};

    private static int wrong = 0;
    private static int asked = 0;

    /** Tells how many answers were wrong, and ends with exit code 1 if one was. */
    static void finish(String name) {
        System.out.println(name + ": " + asked + " answers, " + wrong + " wrong");
        if (wrong != 0) {
            System.exit(1);
        }
    }

    static void due(String what, long got, long want) {
        asked++;
        if (got != want) {
            wrong++;
            System.out.println(what + " answered " + got + ", due is " + want);
        }
    }

    static void due(String what, String got, String want) {
        asked++;
        if (!got.equals(want)) {
            wrong++;
            System.out.println(what + " answered\n  " + got + "\ndue is\n  " + want);
        }
    }

    static void due(String what, boolean got, boolean want) {
        due(what, got ? 1 : 0, want ? 1 : 0);
    }

    static boolean opThrows(RegisterMill x, int func, int i, int what) {
        try {
            x.op(func, i, what);
            return false;
        } catch (NoSuchElementException e) {
            return true;
        }
    }

    static boolean peekThrows(RegisterMill x, int machine, int k) {
        try {
            x.peek(machine, k);
            return false;
        } catch (NoSuchElementException e) {
            return true;
        }
    }

    /** WORDS as "op n, op n"; n may be left out where any will do. */
    static void addWords(RegisterMill x, String text) {
        for (String word : text.split(",")) {
            String[] parts = word.trim().split(" ");
            x.word(Integer.parseInt(parts[0]), parts.length > 1 ? Integer.parseInt(parts[1]) : 0);
        }
    }

    static void addFunc(RegisterMill x, int args, int locals, String text) {
        x.func(args, locals);
        addWords(x, text);
    }

    /** The same WORDS so many times, each time with a comma behind. */
    static String times(int n, String text) {
        return (text + ",").repeat(n);
    }

    static RegisterMill mill(int args, int locals, String text) {
        RegisterMill x = new RegisterMill();
        addFunc(x, args, locals, text);
        return x;
    }

    static RegisterMill checked(int args, int locals, String text) {
        RegisterMill x = mill(args, locals, text);
        due("check of " + text, x.check(), 0);
        return x;
    }

    static RegisterMill turned(int r, int args, int locals, String text) {
        RegisterMill x = checked(args, locals, text);
        due("turn of " + text, x.turn(r) > 0, true);
        return x;
    }

    static String code(RegisterMill x, int func) {
        StringJoiner all = new StringJoiner("; ");
        for (int i = 0; i < x.size(func); i++) {
            int kind = x.op(func, i, 0);
            StringBuilder one = new StringBuilder(NAMES[kind]);
            for (int part = 1; part <= 4; part++) {
                if (part <= PARTS[kind]) {
                    one.append(' ').append(x.op(func, i, part));
                } else {
                    due("a part that an op has not", x.op(func, i, part), 0);
                }
            }
            all.add(one);
        }
        return all.toString();
    }

    static String span(RegisterMill x, int func, int v) {
        return x.value(func, v, 0) + ".." + x.value(func, v, 1)
            + " r" + x.value(func, v, 2) + " s" + x.value(func, v, 3);
    }

    /** Runs both machines to the end; they must agree. */
    static void dueRun(String what, RegisterMill x, int end, int told) {
        due(what + ": stack machine", x.runStack(20000), end);
        due(what + ": register machine", x.runRegisters(20000), end);
        due(what + ": told by stack machine", x.look(0, 1), told);
        due(what + ": told by register machine", x.look(1, 1), told);
        due(what + ": calls", x.look(0, 3), x.look(1, 3));
    }
}
