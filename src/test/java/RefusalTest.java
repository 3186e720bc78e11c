import java.util.ArrayList;
import java.util.List;
import java.util.NoSuchElementException;

/**
 * A refused call changes nothing: of two objects made alike one hears all calls that it must refuse, or
 * that only ask, and then both must answer alike, now and as they go on.
 */
public final class RefusalTest extends Cases {
    private static final long THROWS = Long.MAX_VALUE;
    private static final String[] STAGES = {
        "new", "cells alone", "a FUNC", "WORDS", "a fault", "12 FUNCS", "300 WORDS", "checked",
        "checked, run begun", "turned", "within calls", "told", "trapped", "cleared"
    };

    public static void main(String[] args) {
        for (int stage = 0; stage < STAGES.length; stage++) {
            RegisterMill spoken = at(stage);
            RegisterMill quiet = at(stage);
            for (Call one : refused(spoken)) {
                due(STAGES[stage] + ": " + one.name, one.answer(spoken), one.due);
            }
            dueAlike(STAGES[stage], spoken, quiet);
            goOn(spoken);
            goOn(quiet);
            dueAlike(STAGES[stage] + ", going on", spoken, quiet);
        }
        finish("RefusalTest");
    }

    /** A call by its method's name, and what is due. */
    private static final class Call {
        final String name;
        final long due;
        private final String method;
        private final int a;
        private final int b;
        private final int c;

        Call(long due, String method, int a, int b, int c) {
            this.due = due;
            this.method = method;
            this.a = a;
            this.b = b;
            this.c = c;
            this.name = method + "(" + a + ", " + b + ", " + c + ")";
        }

        long answer(RegisterMill x) {
            try {
                return switch (method) {
                    case "func" -> x.func(a, b);
                    case "word" -> x.word(a, b);
                    case "check" -> x.check();
                    case "depth" -> x.depth(a, b);
                    case "turn" -> x.turn(a);
                    case "op" -> x.op(a, b, c);
                    case "size" -> x.size(a);
                    case "value" -> x.value(a, b, c);
                    case "slots" -> x.slots(a);
                    case "places" -> x.places(a);
                    case "cell" -> x.cell(a, b) ? 1 : 0;
                    case "again" -> x.again() ? 1 : 0;
                    case "runStack" -> x.runStack(a);
                    case "runRegisters" -> x.runRegisters(a);
                    case "look" -> x.look(a, b);
                    case "peek" -> x.peek(a, b);
                    default -> x.count(a);
                };
            } catch (NoSuchElementException e) {
                return THROWS;
            }
        }
    }

    private static RegisterMill program() {
        RegisterMill x = new RegisterMill();
        x.cell(5, 55);
        addFunc(x, 0, 1, "0 3, 2 0, 1 0, 0 4, 17, 1 0, 14 1, 0 2, 14 1, 3, 15");
        addFunc(x, 1, 2, "1 0, 0 7, 3, 9, 2 1, 0 6, 17, 1 1, 15");
        return x;
    }

    private static RegisterMill at(int stage) {
        RegisterMill x = stage < 7 ? new RegisterMill() : program();
        if (stage == 1) {
            x.cell(0, 1);
            x.cell(63, 2);
        } else if (stage == 2) {
            x.func(2, 3);
        } else if (stage == 3) {
            addFunc(x, 2, 3, "1 0, 1 2, 15");
        } else if (stage == 4) {
            addFunc(x, 2, 3, "1 0, 1 3, 15");
            x.check();
        } else if (stage == 5) {
            for (int f = 0; f < 12; f++) {
                addFunc(x, 0, 0, "0 1, 15");
            }
        } else if (stage == 6) {
            x.func(0, 0);
            for (int w = 0; w < 300; w++) {
                x.word(w < 299 ? 12 : 15, 0);
            }
        } else if (stage > 6) {
            runTo(x, stage);
        }
        return x;
    }

    private static void runTo(RegisterMill x, int stage) {
        x.check();
        if (stage == 8) {
            x.runStack(3);
        }
        if (stage > 8) {
            x.turn(4);
        }
        if (stage == 10) {
            x.runStack(10);
            x.runRegisters(16);
        } else if (stage == 11) {
            x.runStack(100);
            x.runRegisters(100);
        } else if (stage == 12) {
            x.clear();
            addFunc(x, 0, 0, "0 9, 0 8, 17, 0 0, 0 0, 6, 15");
            x.check();
            x.turn(4);
            x.runStack(100);
            x.runRegisters(100);
        } else if (stage == 13) {
            x.clear();
        }
    }

    private static List<Call> refused(RegisterMill x) {
        List<Call> all = new ArrayList<>();
        addAlwaysRefused(all);
        boolean checked = x.count(2) == 1;
        boolean turned = x.count(3) != 0;
        if (checked || x.count(0) == 12) {
            all.add(new Call(-1, "func", 0, 0, 0));
            all.add(new Call(-1, "func", 6, 10, 0));
        }
        if (checked || x.count(0) == 0 || x.count(1) == 300) {
            all.add(new Call(-1, "word", 0, 0, 0));
            all.add(new Call(-1, "word", 99, 99, 0));
        }
        if (!checked) {
            addRefusedUnchecked(all);
        }
        if (!turned) {
            addRefusedUnturned(all);
        }
        if (checked || x.count(0) == 0) {
            all.add(new Call(checked ? 0 : 7, "check", 0, 0, 0));
        }
        if (x.look(0, 0) != 0) {
            all.add(new Call(x.look(0, 0), "runStack", 20000, 0, 0));
            all.add(new Call(x.look(1, 0), "runRegisters", 20000, 0, 0));
        }
        if (x.count(1) == 300) {
            // More would lead beyond the 512 calls that an object is used for.
            all.removeIf(one -> !one.method.equals("func") && !one.method.equals("word"));
        }
        return all;
    }

    private static void addAlwaysRefused(List<Call> all) {
        int[][] funcs = {{-1, 0}, {7, 10}, {0, -1}, {0, 11}, {6, 5}, {MIN, MIN}, {MAX, MAX}};
        for (int[] one : funcs) {
            all.add(new Call(-1, "func", one[0], one[1], 0));
        }
        for (int far : new int[] {MIN, -1, 12, MAX}) {
            all.add(new Call(-1, "depth", far, 0, 0));
            all.add(new Call(THROWS, "op", far, 0, 0));
            all.add(new Call(-1, "size", far, 0, 0));
            all.add(new Call(-1, "value", far, 0, 0));
            all.add(new Call(-1, "slots", far, 0, 0));
            all.add(new Call(-1, "places", far, 0, 0));
            all.add(new Call(-1, "look", far, 0, 0));
            all.add(new Call(-1, "look", 0, far, 0));
            all.add(new Call(THROWS, "peek", far, 0, 0));
            all.add(new Call(-1, "count", far, 0, 0));
        }
        for (int far : new int[] {MIN, -1, 300, MAX}) {
            all.add(new Call(-1, "depth", 0, far, 0));
            all.add(new Call(-1, "value", 0, far, 0));
            all.add(new Call(-1, "value", 0, 0, far));
            all.add(new Call(THROWS, "op", 0, far < 300 ? far : MAX, 0));
            all.add(new Call(THROWS, "op", 0, 0, far));
            all.add(new Call(0, "cell", far, 9, 0));
            all.add(new Call(THROWS, "peek", 1, far, 0));
        }
        for (int n : new int[] {MIN, -1, 0, 20001, MAX}) {
            all.add(new Call(-1, "runStack", n, 0, 0));
            all.add(new Call(-1, "runRegisters", n, 0, 0));
            all.add(new Call(-1, "turn", n, 0, 0));
        }
        all.add(new Call(0, "cell", 64, 9, 0));
        all.add(new Call(-1, "turn", 2, 0, 0));
        all.add(new Call(-1, "turn", 17, 0, 0));
    }

    private static void addRefusedUnchecked(List<Call> all) {
        all.add(new Call(-1, "depth", 0, 0, 0));
        all.add(new Call(-1, "turn", 3, 0, 0));
        all.add(new Call(-1, "turn", 16, 0, 0));
        all.add(new Call(0, "again", 0, 0, 0));
        all.add(new Call(-1, "runStack", 1, 0, 0));
    }

    private static void addRefusedUnturned(List<Call> all) {
        all.add(new Call(-1, "runRegisters", 1, 0, 0));
        all.add(new Call(THROWS, "op", 0, 0, 0));
        all.add(new Call(-1, "size", 0, 0, 0));
        all.add(new Call(-1, "value", 0, 0, 0));
        all.add(new Call(-1, "slots", 0, 0, 0));
        all.add(new Call(-1, "places", 0, 0, 0));
    }

    private static String state(RegisterMill x) {
        StringBuilder all = new StringBuilder();
        for (int what = 0; what < 5; what++) {
            all.append(x.count(what)).append(' ').append(x.look(0, what)).append(' ').append(x.look(1, what)).append(' ');
        }
        for (int k : new int[] {0, 3, 4, 5, 6, 8, 10, 63}) {
            all.append(x.peek(0, k)).append(' ').append(x.peek(1, k)).append(' ');
        }
        for (int f = 0; f < 2; f++) {
            all.append('\n').append(x.size(f)).append(' ').append(x.slots(f)).append(' ').append(x.places(f));
            for (int w = 0; w < 5; w++) {
                all.append(' ').append(x.depth(f, w));
            }
            for (int v = 0; v < 4; v++) {
                all.append(' ').append(span(x, f, v));
            }
        }
        return all.append('\n').append(code(x, 1)).toString();
    }

    private static void dueAlike(String what, RegisterMill spoken, RegisterMill quiet) {
        due(what, state(spoken), state(quiet));
    }

    /** Goes on by what a stage still lets: FUNCS, WORDS, CHECK, TURNING, STEPS. */
    private static void goOn(RegisterMill x) {
        x.word(15, 0);
        x.func(1, 1);
        addWords(x, "1 0, 15");
        x.check();
        x.runStack(2);
        if (x.count(3) == 0) {
            x.turn(5);
        }
        x.runRegisters(3);
    }
}
