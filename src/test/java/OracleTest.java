import java.util.ArrayList;
import java.util.Arrays;
import java.util.Collections;
import java.util.HashMap;
import java.util.HashSet;
import java.util.List;
import java.util.Map;
import java.util.NoSuchElementException;
import java.util.Random;
import java.util.Set;
import java.util.TreeSet;

/** Random programs, each answer held against a second way to reckon it that is as plain as can be. */
public final class OracleTest {
    private static final int PROGRAMS = 4000;
    private static final int SPECIALS = 5;
    private static int wrong = 0;
    private static long asked = 0;
    private static int checkedPrograms = 0;
    private static int comparedRuns = 0;
    private static final Map<Integer, Integer> faultsSeen = new HashMap<>();
    private static final Map<Integer, Integer> endsSeen = new HashMap<>();
    private static final Map<String, Integer> kindsSeen = new HashMap<>();

    public static void main(String[] args) {
        RegisterMill mill = new RegisterMill();
        for (int seed = 0; seed < PROGRAMS && wrong < 20; seed++) {
            Random random = new Random(seed);
            Prog program = seed % 5 == 0 ? wild(random) : tame(random);
            if (seed % 7 == 3) {
                spoil(program, random);
            }
            // Most programs find what an earlier one left in the object.
            if (seed % 50 == 0) {
                mill = new RegisterMill();
            }
            mill.clear();
            compare(seed, program, mill, random);
        }
        for (int k = 0; k < SPECIALS; k++) {
            mill.clear();
            compare(PROGRAMS + k, special(k), mill, new Random(k));
            require("special program " + k + " is checked", mill.count(2) == 1);
        }
        for (int kind = 0; kind < 6; kind++) {
            require("fault " + kind + " was seen", faultsSeen.getOrDefault(kind, 0) > 20);
        }
        for (int end = 0; end < 5; end++) {
            require("end " + end + " was seen", endsSeen.getOrDefault(end, 0) > 20);
        }
        for (int kind = 0; kind < 15; kind++) {
            require("op " + kind + " was seen", kindsSeen.getOrDefault("op" + kind, 0) > 20);
        }
        System.out.println("OracleTest: " + asked + " answers of " + checkedPrograms + " checked programs, "
            + comparedRuns + " runs ended alike, " + wrong + " wrong; faults " + faultsSeen + ", ends "
            + endsSeen + ", ops " + new java.util.TreeMap<>(kindsSeen));
        if (wrong != 0) {
            System.exit(1);
        }
    }

    private static void require(String what, boolean held) {
        if (!held) {
            wrong++;
            System.out.println("not so: " + what);
        }
    }

    private static void due(int seed, String what, long got, long want) {
        asked++;
        if (got != want) {
            wrong++;
            System.out.println("program " + seed + ": " + what + " answered " + got + ", due is " + want);
        }
    }

    // ---- programs

    private static final class Func {
        int args;
        int locals;
        List<int[]> words = new ArrayList<>();
        int[] depth;
    }

    private static final class Prog {
        List<Func> funcs = new ArrayList<>();
    }

    private static Func func(Prog program, int args, int locals) {
        Func func = new Func();
        func.args = args;
        func.locals = locals;
        program.funcs.add(func);
        return func;
    }

    private static void add(Func func, int times, int... words) {
        for (int i = 0; i < times; i++) {
            for (int k = 0; k + 1 < words.length; k += 2) {
                func.words.add(new int[] {words[k], words[k + 1]});
            }
        }
    }

    /** Programs as full as the document lets them be. */
    private static Prog special(int k) {
        Prog program = new Prog();
        Func main = func(program, k == 0 ? 6 : 0, 10);
        switch (k) {
            case 0:
                // 300 places, many of them a call with six ARGS.
                add(main, 37, 0, 1, 0, 2, 0, 3, 0, 4, 0, 5, 0, 6, 14, 0, 2, 0);
                add(main, 1, 1, 0, 1, 1, 3, 0, 15, 0);
                break;
            case 1:
                add(main, 99, 0, 7, 0, 5, 17, 0);
                add(main, 1, 0, 64, 16, 0, 15, 0);
                break;
            case 2:
                // All 22 values at once, and 12 on the STACK again and again.
                for (int v = 0; v < 10; v++) {
                    add(main, 1, 0, v, 2, v);
                }
                add(main, 1, 12, 21);
                add(main, 12, 1, 9);
                add(main, 11, 10, 0, 3, 0);
                for (int v = 0; v < 10; v++) {
                    add(main, 1, 1, v, 3, 0);
                }
                add(main, 1, 15, 0);
                break;
            case 3:
                // Each FUNC calls the next one with six ARGS, the last one nobody.
                add(main, 6, 0, 2);
                add(main, 1, 14, 1, 15, 0);
                for (int f = 1; f < 12; f++) {
                    Func func = func(program, 6, 10);
                    add(func, 1, 1, 0, 1, 1, 1, 2, 1, 3, 1, 4, 1, 5, 1, 6, 3, 0);
                    add(func, 1, f < 11 ? 14 : 5, f + 1);
                    add(func, f < 11 ? 0 : 4, 3, 0);
                    add(func, 1, 15, 0);
                }
                break;
            default:
                // 30 calls within one another, each with 11 left on its STACK.
                add(main, 11, 0, 1);
                add(main, 1, 14, 0, 15, 0);
                break;
        }
        return program;
    }

    private static Prog shape(Random random) {
        Prog program = new Prog();
        int count = random.nextInt(4) == 0 ? 1 + random.nextInt(12) : 1 + random.nextInt(3);
        for (int f = 0; f < count; f++) {
            Func func = new Func();
            func.args = random.nextInt(random.nextBoolean() ? 3 : 7);
            func.locals = func.args + random.nextInt(11 - func.args);
            program.funcs.add(func);
        }
        return program;
    }

    private static int number(Random random) {
        switch (random.nextInt(6)) {
            case 0:
                return random.nextInt();
            case 1:
                return random.nextBoolean() ? Integer.MIN_VALUE : -1;
            default:
                return random.nextInt(5);
        }
    }

    private static Prog wild(Random random) {
        Prog program = shape(random);
        int rarely = 2 + random.nextInt(20);
        for (Func func : program.funcs) {
            int length = 1 + random.nextInt(24);
            for (int w = 0; w < length; w++) {
                int op = random.nextInt(rarely) == 0 ? random.nextInt(20) - 1 : 0;
                func.words.add(new int[] {op, random.nextInt(9) - 1});
            }
            if (random.nextInt(9) == 0) {
                func.words.clear();
            }
        }
        return program;
    }

    private static void spoil(Prog program, Random random) {
        Func func = program.funcs.get(random.nextInt(program.funcs.size()));
        if (!func.words.isEmpty()) {
            int[] word = func.words.get(random.nextInt(func.words.size()));
            if (random.nextBoolean()) {
                word[0] = random.nextInt(20) - 1;
            } else {
                word[1] = random.nextInt(40) - 3;
            }
        }
    }

    /** A program that CHECK lets through: the DEPTH is followed while WORDS are drawn. */
    private static Prog tame(Random random) {
        Prog program = shape(random);
        int each = 290 / program.funcs.size();
        int most = random.nextInt(8) == 0 ? each : Math.min(each, 40);
        for (Func func : program.funcs) {
            new Drawer(program, func, random).draw(4 + random.nextInt(Math.max(1, most - 20)));
        }
        return program;
    }

    private static final class Drawer {
        final Prog program;
        final Func func;
        final Random random;
        final List<Integer> depthAt = new ArrayList<>();
        final List<int[]> open = new ArrayList<>();
        int depth = 0;

        Drawer(Prog program, Func func, Random random) {
            this.program = program;
            this.func = func;
            this.random = random;
        }

        void put(int op, int n, int behind) {
            depthAt.add(depth);
            func.words.add(new int[] {op, n});
            depth = behind;
        }

        void draw(int length) {
            while (func.words.size() < length) {
                settle();
                one();
            }
            if (depth == 0) {
                put(0, number(random), 1);
            }
            put(15, 0, 0);
            for (int[] jump : open) {
                func.words.get(jump[0])[1] = jump[0] + 1;
            }
        }

        // Open jumps forward whose DEPTH fits may come here.
        void settle() {
            for (int i = open.size() - 1; i >= 0; i--) {
                if (open.get(i)[1] == depth && random.nextInt(3) == 0) {
                    func.words.get(open.get(i)[0])[1] = func.words.size();
                    open.remove(i);
                }
            }
        }

        int earlier(int wanted) {
            List<Integer> fits = new ArrayList<>();
            for (int w = 0; w < depthAt.size(); w++) {
                if (depthAt.get(w) == wanted) {
                    fits.add(w);
                }
            }
            return fits.isEmpty() ? -1 : fits.get(random.nextInt(fits.size()));
        }

        void one() {
            int op = random.nextInt(18);
            if (depth < 12 && random.nextInt(4) == 0) {
                op = random.nextInt(2);
            }
            boolean local = func.locals > 0;
            if (op == 0 && depth < 12) {
                put(0, number(random), depth + 1);
            } else if (op == 1 && depth < 12 && local) {
                put(1, random.nextInt(func.locals), depth + 1);
            } else if (op == 2 && depth > 0 && local) {
                put(2, random.nextInt(func.locals), depth - 1);
            } else if (op >= 3 && op <= 8 && depth > 1) {
                put(op, number(random), depth - 1);
            } else if (op == 9 && depth > 0 && depth < 12) {
                put(9, 0, depth + 1);
            } else if (op == 10 && depth > 1) {
                put(10, 0, depth);
            } else if (op == 11 && depth > 0) {
                put(11, 0, depth - 1);
            } else if (op == 12 && random.nextInt(2) == 0) {
                away();
            } else if (op == 13 && depth > 0) {
                branch();
            } else if (op == 14) {
                call();
            } else if (op == 16 && depth > 0) {
                if (depth < 12) {
                    put(0, random.nextInt(random.nextInt(9) == 0 ? 70 : 64), depth + 1);
                }
                put(16, 0, depth);
            } else if (op == 17 && depth > 1) {
                put(17, 0, depth - 2);
            } else if (op == 15 && depth > 0 && random.nextInt(4) == 0 && !open.isEmpty()) {
                put(15, 0, 0);
                comeBack();
            }
        }

        void branch() {
            int back = random.nextInt(3) == 0 ? earlier(depth - 1) : -1;
            if (back < 0) {
                open.add(new int[] {func.words.size(), depth - 1});
            }
            put(13, Math.max(back, 0), depth - 1);
        }

        void away() {
            int back = earlier(depth);
            int at = func.words.size();
            put(12, Math.max(back, 0), depth);
            if (back < 0 || open.isEmpty() || random.nextBoolean()) {
                unreached();
                func.words.get(at)[1] = func.words.size();
            } else {
                comeBack();
            }
        }

        void unreached() {
            for (int i = random.nextInt(3); i > 0; i--) {
                put(random.nextInt(20), random.nextInt(50) - 5, depth);
                depthAt.set(depthAt.size() - 1, -1);
            }
        }

        // Behind what does not go on to the next WORD an open jump comes in.
        void comeBack() {
            unreached();
            int[] jump = open.remove(random.nextInt(open.size()));
            func.words.get(jump[0])[1] = func.words.size();
            depth = jump[1];
        }

        void call() {
            int f = random.nextInt(program.funcs.size());
            int takes = program.funcs.get(f).args;
            boolean later = f > program.funcs.indexOf(func);
            if (depth >= takes && depth - takes + 1 <= 12 && (later || random.nextInt(4) == 0)) {
                put(14, f, depth - takes + 1);
            }
        }
    }

    // ---- CHECK

    private static int needs(Prog program, int[] word) {
        switch (word[0]) {
            case 2: case 9: case 11: case 13: case 15: case 16:
                return 1;
            case 3: case 4: case 5: case 6: case 7: case 8: case 10: case 17:
                return 2;
            case 14:
                return program.funcs.get(word[1]).args;
            default:
                return 0;
        }
    }

    private static int change(Prog program, int[] word) {
        switch (word[0]) {
            case 0: case 1: case 9:
                return 1;
            case 10: case 12: case 16:
                return 0;
            case 17:
                return -2;
            case 14:
                return 1 - program.funcs.get(word[1]).args;
            default:
                return -1;
        }
    }

    private static int check(Prog program) {
        for (int f = 0; f < program.funcs.size(); f++) {
            if (program.funcs.get(f).words.isEmpty()) {
                return 6 + 8 * f;
            }
        }
        for (int f = 0; f < program.funcs.size(); f++) {
            int fault = check(program, program.funcs.get(f));
            if (fault != 0) {
                return fault % 8 + 8 * f + 128 * (fault / 8);
            }
        }
        return 0;
    }

    /** The fault's kind + 8 * WORD. */
    private static int check(Prog program, Func func) {
        func.depth = new int[func.words.size()];
        Arrays.fill(func.depth, -1);
        func.depth[0] = 0;
        TreeSet<Integer> waiting = new TreeSet<>(Set.of(0));
        while (!waiting.isEmpty()) {
            int w = waiting.pollFirst();
            int[] word = func.words.get(w);
            int op = word[0];
            int n = word[1];
            if (op < 0 || op > 17
                || (op == 1 || op == 2) && (n < 0 || n >= func.locals)
                || (op == 12 || op == 13) && (n < 0 || n >= func.words.size())
                || op == 14 && (n < 0 || n >= program.funcs.size())) {
                return 1 + 8 * w;
            }
            if (func.depth[w] < needs(program, word)) {
                return 2 + 8 * w;
            }
            int behind = func.depth[w] + change(program, word);
            if (behind > 12) {
                return 3 + 8 * w;
            }
            List<Integer> ways = new ArrayList<>();
            if (op != 12 && op != 15) {
                ways.add(w + 1);
            }
            if (op == 12 || op == 13) {
                ways.add(n);
            }
            for (int way : ways) {
                if (way == func.words.size()) {
                    return 4 + 8 * w;
                }
                if (func.depth[way] < 0) {
                    func.depth[way] = behind;
                    waiting.add(way);
                } else if (func.depth[way] != behind) {
                    return 5 + 8 * w;
                }
            }
        }
        return 0;
    }

    // ---- TURNING

    private static final class Place {
        String kind;
        List<Integer> writes = new ArrayList<>();
        List<Integer> reads = new ArrayList<>();
        int n;
        Place goal;
        int goalWord = -1;
        Set<Integer> liveAhead = new HashSet<>();
        Set<Integer> liveBehind = new HashSet<>();
        int firstOp;

        Place(String kind, List<Integer> writes, Integer... reads) {
            this.kind = kind;
            this.writes.addAll(writes);
            this.reads.addAll(List.of(reads));
        }

        boolean isJump() {
            return kind.equals("GO") || kind.equals("IFNOT");
        }
    }

    private static final class Turned {
        List<Place> places = new ArrayList<>();
        Map<Integer, int[]> spans = new HashMap<>();
        Map<Integer, Integer> register = new HashMap<>();
        Map<Integer, Integer> slot = new HashMap<>();
        List<int[]> ops = new ArrayList<>();
    }

    private static Place place(Prog program, Func func, int w) {
        int[] word = func.words.get(w);
        int n = word[1];
        int x = func.locals + func.depth[w];
        Place p;
        switch (word[0]) {
            case 0:
                p = new Place("SET", List.of(x));
                p.n = n;
                return p;
            case 1:
                return new Place("MOVE", List.of(x), n);
            case 2:
                return new Place("MOVE", List.of(n), x - 1);
            case 9:
                return new Place("MOVE", List.of(x), x - 1);
            case 10:
                return new Place("SWAP", List.of(x - 1, x - 2), x - 1, x - 2);
            case 12:
                p = new Place("GO", List.of());
                p.goalWord = n;
                return p;
            case 13:
                p = new Place("IFNOT", List.of(), x - 1);
                p.goalWord = n;
                return p;
            case 14:
                int a = program.funcs.get(n).args;
                p = new Place("CALL", List.of(x - a));
                for (int v = x - a; v < x; v++) {
                    p.reads.add(v);
                }
                p.n = n;
                return p;
            case 15:
                return new Place("TELL", List.of(), x - 1);
            case 16:
                return new Place("READ", List.of(x - 1), x - 1);
            case 17:
                return new Place("WRITE", List.of(), x - 1, x - 2);
            default:
                p = new Place("WORK", List.of(x - 2), x - 2, x - 1);
                p.n = word[0];
                return p;
        }
    }

    private static Turned turn(Prog program, Func func, int r) {
        Turned t = new Turned();
        Place[] became = new Place[func.words.size()];
        for (int w = 0; w < became.length; w++) {
            if (func.depth[w] >= 0 && func.words.get(w)[0] != 11) {
                became[w] = place(program, func, w);
                t.places.add(became[w]);
            }
        }
        for (Place p : t.places) {
            for (int w = p.goalWord; w >= 0 && p.goal == null; w++) {
                p.goal = became[w];
            }
        }
        forward(t);
        boolean more = true;
        while (more) {
            more = leaveOut(t);
        }
        spans(t);
        scan(t, r - 2);
        write(t, func, r);
        return t;
    }

    private static void forward(Turned t) {
        Set<Place> goals = new HashSet<>();
        for (Place p : t.places) {
            goals.add(p.goal);
        }
        Map<Integer, Integer> table = new HashMap<>();
        for (Place p : t.places) {
            if (goals.contains(p)) {
                table.clear();
            }
            if (!p.kind.equals("SWAP")) {
                p.reads.replaceAll(v -> table.getOrDefault(v, v));
            }
            for (int v : p.writes) {
                table.remove(v);
                table.values().removeIf(told -> told == v);
            }
            if (p.kind.equals("MOVE") && !p.writes.equals(p.reads)) {
                table.put(p.writes.get(0), p.reads.get(0));
            }
            if (p.isJump() || p.kind.equals("TELL")) {
                table.clear();
            }
        }
    }

    private static List<Integer> ways(Turned t, int p) {
        Place place = t.places.get(p);
        List<Integer> ways = new ArrayList<>();
        if (!place.kind.equals("GO") && !place.kind.equals("TELL")) {
            ways.add(p + 1);
        }
        if (place.goal != null) {
            ways.add(t.places.indexOf(place.goal));
        }
        return ways;
    }

    /** A value is LIVE ahead of each place from which a way leads to a read of it with no write between. */
    private static void live(Turned t) {
        int size = t.places.size();
        List<List<Integer>> from = new ArrayList<>();
        for (int p = 0; p < size; p++) {
            from.add(new ArrayList<>());
            t.places.get(p).liveAhead.clear();
            t.places.get(p).liveBehind.clear();
        }
        for (int p = 0; p < size; p++) {
            for (int way : ways(t, p)) {
                from.get(way).add(p);
            }
        }
        for (int p = 0; p < size; p++) {
            for (int v : t.places.get(p).reads) {
                spread(t, from, p, v);
            }
        }
    }

    private static void spread(Turned t, List<List<Integer>> from, int start, int v) {
        List<Integer> todo = new ArrayList<>(List.of(start));
        while (!todo.isEmpty()) {
            int p = todo.remove(todo.size() - 1);
            if (!t.places.get(p).liveAhead.add(v)) {
                continue;
            }
            for (int before : from.get(p)) {
                t.places.get(before).liveBehind.add(v);
                if (!t.places.get(before).writes.contains(v)) {
                    todo.add(before);
                }
            }
        }
    }

    private static boolean leaveOut(Turned t) {
        live(t);
        Set<Place> gone = new HashSet<>();
        for (Place p : t.places) {
            boolean moves = p.kind.equals("MOVE");
            boolean dead = (moves || p.kind.equals("SET")) && !p.liveBehind.contains(p.writes.get(0));
            if (dead || moves && p.writes.equals(p.reads)) {
                gone.add(p);
            }
        }
        for (Place p : t.places) {
            while (gone.contains(p.goal)) {
                p.goal = t.places.get(t.places.indexOf(p.goal) + 1);
            }
        }
        t.places.removeAll(gone);
        return !gone.isEmpty();
    }

    private static void spans(Turned t) {
        for (int p = 0; p < t.places.size(); p++) {
            Set<Integer> here = new HashSet<>(t.places.get(p).liveAhead);
            here.addAll(t.places.get(p).reads);
            here.addAll(t.places.get(p).writes);
            for (int v : here) {
                t.spans.putIfAbsent(v, new int[] {p, p});
                t.spans.get(v)[1] = p;
            }
        }
    }

    private static void scan(Turned t, int registers) {
        List<Integer> order = new ArrayList<>(t.spans.keySet());
        order.sort((x, y) -> t.spans.get(x)[0] != t.spans.get(y)[0]
            ? t.spans.get(x)[0] - t.spans.get(y)[0] : x - y);
        TreeSet<Integer> free = new TreeSet<>();
        for (int r = 0; r < registers; r++) {
            free.add(r);
        }
        List<Integer> active = new ArrayList<>();
        for (int v : order) {
            for (int other : new ArrayList<>(active)) {
                if (t.spans.get(other)[1] < t.spans.get(v)[0]) {
                    active.remove((Integer) other);
                    free.add(t.register.get(other));
                }
            }
            active.add(v);
            if (!free.isEmpty()) {
                t.register.put(v, free.pollFirst());
                continue;
            }
            int out = Collections.max(active, (x, y) -> t.spans.get(x)[1] != t.spans.get(y)[1]
                ? t.spans.get(x)[1] - t.spans.get(y)[1] : x - y);
            active.remove((Integer) out);
            t.slot.put(out, t.slot.size());
            if (out != v) {
                t.register.put(v, t.register.remove(out));
            }
        }
    }

    private static int in(Turned t, int v, int spare) {
        if (t.slot.containsKey(v)) {
            t.ops.add(new int[] {9, spare, t.slot.get(v), 0, 0});
            return spare;
        }
        return t.register.get(v);
    }

    private static void out(Turned t, int v, int a, int... op) {
        op[1] = t.slot.containsKey(v) ? a : t.register.get(v);
        t.ops.add(op);
        if (t.slot.containsKey(v)) {
            t.ops.add(new int[] {10, t.slot.get(v), a, 0, 0});
        }
    }

    private static void write(Turned t, Func func, int r) {
        int a = r - 2;
        for (int v = 0; v < func.locals; v++) {
            if (t.places.get(0).liveAhead.contains(v)) {
                out(t, v, a, v < func.args ? 11 : 0, 0, v < func.args ? v : 0, 0, 0);
            }
        }
        List<int[]> jumps = new ArrayList<>();
        List<Place> jumpers = new ArrayList<>();
        for (Place p : t.places) {
            p.firstOp = t.ops.size();
            write(t, p, a, a + 1);
            if (p.isJump()) {
                jumps.add(t.ops.get(t.ops.size() - 1));
                jumpers.add(p);
            }
        }
        for (int i = 0; i < jumps.size(); i++) {
            jumps.get(i)[jumps.get(i)[0] == 4 ? 1 : 2] = jumpers.get(i).goal.firstOp;
        }
    }

    private static void write(Turned t, Place p, int a, int b) {
        switch (p.kind) {
            case "SET":
                out(t, p.writes.get(0), a, 0, 0, p.n, 0, 0);
                break;
            case "MOVE":
                move(t, p.writes.get(0), p.reads.get(0), a);
                break;
            case "WORK":
                int left = in(t, p.reads.get(0), a);
                int right = in(t, p.reads.get(1), b);
                out(t, p.writes.get(0), a, 2, 0, left, right, p.n);
                break;
            case "SWAP":
                swap(t, p.reads.get(0), p.reads.get(1), a, b);
                break;
            case "GO":
                t.ops.add(new int[] {4, 0, 0, 0, 0});
                break;
            case "IFNOT":
                t.ops.add(new int[] {5, in(t, p.reads.get(0), a), 0, 0, 0});
                break;
            case "TELL":
                t.ops.add(new int[] {6, in(t, p.reads.get(0), a), 0, 0, 0});
                break;
            case "READ":
                out(t, p.writes.get(0), a, 7, 0, in(t, p.reads.get(0), a), 0, 0);
                break;
            case "WRITE":
                t.ops.add(new int[] {8, in(t, p.reads.get(0), a), in(t, p.reads.get(1), b), 0, 0});
                break;
            default:
                for (int k = 0; k < p.reads.size(); k++) {
                    t.ops.add(new int[] {12, k, in(t, p.reads.get(k), a), 0, 0});
                }
                t.ops.add(new int[] {13, p.n, 0, 0, 0});
                out(t, p.writes.get(0), a, 14, 0, 0, 0, 0);
                break;
        }
    }

    private static void move(Turned t, int to, int from, int a) {
        Integer toSlot = t.slot.get(to);
        Integer fromSlot = t.slot.get(from);
        if (toSlot == null && fromSlot == null) {
            if (!t.register.get(to).equals(t.register.get(from))) {
                t.ops.add(new int[] {1, t.register.get(to), t.register.get(from), 0, 0});
            }
        } else if (toSlot == null) {
            t.ops.add(new int[] {9, t.register.get(to), fromSlot, 0, 0});
        } else if (fromSlot == null) {
            t.ops.add(new int[] {10, toSlot, t.register.get(from), 0, 0});
        } else if (to != from) {
            t.ops.add(new int[] {9, a, fromSlot, 0, 0});
            t.ops.add(new int[] {10, toSlot, a, 0, 0});
        }
    }

    private static void swap(Turned t, int x, int y, int a, int b) {
        if (t.register.containsKey(x) && t.register.containsKey(y)) {
            t.ops.add(new int[] {3, t.register.get(x), t.register.get(y), 0, 0});
            return;
        }
        int[][] pairs = {{x, a, b}, {y, b, a}};
        for (int[] pair : pairs) {
            boolean slot = t.slot.containsKey(pair[0]);
            t.ops.add(new int[] {slot ? 9 : 1, pair[1], home(t, pair[0]), 0, 0});
        }
        for (int[] pair : pairs) {
            boolean slot = t.slot.containsKey(pair[0]);
            t.ops.add(new int[] {slot ? 10 : 1, home(t, pair[0]), pair[2], 0, 0});
        }
    }

    private static int home(Turned t, int v) {
        return t.slot.containsKey(v) ? t.slot.get(v) : t.register.get(v);
    }

    // ---- RUNS

    private static final class Frame {
        int func;
        int at;
        int[] locals = new int[10];
        List<Integer> stack = new ArrayList<>();
        int[] registers = new int[16];
        int[] slots = new int[22];
        int[] given = new int[6];
        int[] pass = new int[6];
        int got;
    }

    private static class Machine {
        int[] memory = new int[64];
        List<Frame> frames = new ArrayList<>();
        int end;
        int told;
        int steps;
        int calls;

        Frame enter(int func) {
            if (frames.size() == 30) {
                finish(4);
                return new Frame();
            }
            Frame frame = new Frame();
            frame.func = func;
            frames.add(frame);
            calls++;
            return frame;
        }

        void finish(int how) {
            end = how;
            frames.clear();
        }

        Frame leave(int answer) {
            frames.remove(frames.size() - 1);
            if (frames.isEmpty()) {
                told = answer;
                finish(1);
                return new Frame();
            }
            return frames.get(frames.size() - 1);
        }

        int look(int what) {
            return new int[] {end, told, steps, calls, frames.size()}[what];
        }
    }

    private static int reckon(int op, int t, int s) {
        switch (op) {
            case 3:
                return t + s;
            case 4:
                return t - s;
            case 5:
                return t * s;
            case 6:
                return (int) ((long) t / s);
            case 7:
                return t < s ? 1 : 0;
            default:
                return t == s ? 1 : 0;
        }
    }

    private static int runStack(Prog program, Machine m, int n) {
        for (int i = 0; i < n && m.end == 0; i++) {
            Frame f = m.frames.isEmpty() ? m.enter(0) : m.frames.get(m.frames.size() - 1);
            m.steps++;
            int[] word = program.funcs.get(f.func).words.get(f.at++);
            List<Integer> stack = f.stack;
            int takes = word[0] == 9 ? 0 : needs(program, word);
            List<Integer> taken = new ArrayList<>(stack.subList(stack.size() - takes, stack.size()));
            for (int k = 0; k < takes; k++) {
                stack.remove(stack.size() - 1);
            }
            stackStep(m, f, word, taken);
        }
        return m.end;
    }

    private static void stackStep(Machine m, Frame f, int[] word, List<Integer> taken) {
        int n = word[1];
        int s = taken.isEmpty() ? 0 : taken.get(taken.size() - 1);
        int t = taken.isEmpty() ? 0 : taken.get(0);
        switch (word[0]) {
            case 0: f.stack.add(n); break;
            case 1: f.stack.add(f.locals[n]); break;
            case 2: f.locals[n] = s; break;
            case 9: f.stack.add(f.stack.get(f.stack.size() - 1)); break;
            case 10: f.stack.add(s); f.stack.add(t); break;
            case 11: break;
            case 12: f.at = n; break;
            case 13: f.at = s == 0 ? n : f.at; break;
            case 14:
                Frame called = m.enter(n);
                for (int k = 0; k < taken.size(); k++) {
                    called.locals[k] = taken.get(k);
                }
                break;
            case 15: m.leave(s).stack.add(s); break;
            case 16:
                if (s < 0 || s > 63) {
                    m.finish(3);
                } else {
                    f.stack.add(m.memory[s]);
                }
                break;
            case 17:
                if (s < 0 || s > 63) {
                    m.finish(3);
                } else {
                    m.memory[s] = t;
                }
                break;
            default:
                if (word[0] == 6 && s == 0) {
                    m.finish(2);
                } else {
                    f.stack.add(reckon(word[0], t, s));
                }
                break;
        }
    }

    private static int runRegisters(List<Turned> code, Machine m, int n) {
        for (int i = 0; i < n && m.end == 0; i++) {
            Frame f = m.frames.isEmpty() ? m.enter(0) : m.frames.get(m.frames.size() - 1);
            m.steps++;
            int[] op = code.get(f.func).ops.get(f.at++);
            registerStep(m, f, op);
        }
        return m.end;
    }

    private static void registerStep(Machine m, Frame f, int[] op) {
        int a = op[1];
        int b = op[2];
        int[] r = f.registers;
        switch (op[0]) {
            case 0: r[a] = b; break;
            case 1: r[a] = r[b]; break;
            case 2:
                if (op[4] == 6 && r[op[3]] == 0) {
                    m.finish(2);
                } else {
                    r[a] = reckon(op[4], r[b], r[op[3]]);
                }
                break;
            case 3: int x = r[a]; r[a] = r[b]; r[b] = x; break;
            case 4: f.at = a; break;
            case 5: f.at = r[a] == 0 ? b : f.at; break;
            case 6: m.leave(r[a]).got = r[a]; break;
            case 7:
                if (r[b] < 0 || r[b] > 63) {
                    m.finish(3);
                } else {
                    r[a] = m.memory[r[b]];
                }
                break;
            case 8:
                if (r[a] < 0 || r[a] > 63) {
                    m.finish(3);
                } else {
                    m.memory[r[a]] = r[b];
                }
                break;
            case 9: r[a] = f.slots[b]; break;
            case 10: f.slots[a] = r[b]; break;
            case 11: r[a] = f.given[b]; break;
            case 12: f.pass[a] = r[b]; break;
            case 13: m.enter(a).given = f.pass.clone(); break;
            default: r[a] = f.got; break;
        }
    }

    // ---- comparing

    private static void compare(int seed, Prog program, RegisterMill mill, Random random) {
        for (int f = 0; f < program.funcs.size(); f++) {
            Func func = program.funcs.get(f);
            due(seed, "func", mill.func(func.args, func.locals), f);
            for (int w = 0; w < func.words.size(); w++) {
                due(seed, "word", mill.word(func.words.get(w)[0], func.words.get(w)[1]), w);
            }
        }
        int fault = check(program);
        faultsSeen.merge(fault % 8, 1, Integer::sum);
        due(seed, "check", mill.check(), fault);
        due(seed, "checked", mill.count(2), fault == 0 ? 1 : 0);
        if (fault != 0) {
            due(seed, "turn", mill.turn(4), -1);
            return;
        }
        checkedPrograms++;
        for (int f = 0; f < program.funcs.size(); f++) {
            for (int w = 0; w < program.funcs.get(f).words.size(); w++) {
                due(seed, "depth(" + f + ", " + w + ")", mill.depth(f, w), program.funcs.get(f).depth[w]);
            }
        }
        int[] rs = {3, 4, 5, 3 + random.nextInt(14)};
        for (int r : rs) {
            for (int k = 0; k < 64; k++) {
                mill.cell(k, k * k - 7 * k);
            }
            compareTurned(seed, program, mill, r, random);
        }
    }

    private static void compareTurned(int seed, Prog program, RegisterMill mill, int r, Random random) {
        List<Turned> code = new ArrayList<>();
        int total = 0;
        for (Func func : program.funcs) {
            code.add(turn(program, func, r));
            total += code.get(code.size() - 1).ops.size();
        }
        due(seed, "turn(" + r + ")", mill.turn(r), total);
        due(seed, "count(4)", mill.count(4), total);
        for (int f = 0; f < code.size(); f++) {
            compareFunc(seed, "R " + r + ", FUNC " + f + ": ", f, code.get(f), mill);
        }
        Machine stack = new Machine();
        Machine registers = new Machine();
        for (int k = 0; k < 64; k++) {
            stack.memory[k] = k * k - 7 * k;
            registers.memory[k] = stack.memory[k];
        }
        int[] pieces = {1, 1, 1 + random.nextInt(9), 1 + random.nextInt(60), 1000, 3000};
        for (int n : pieces) {
            due(seed, "runStack", mill.runStack(n), runStack(program, stack, n));
            due(seed, "runRegisters", mill.runRegisters(n), runRegisters(code, registers, n));
            for (int what = 0; what < 5; what++) {
                due(seed, "look(0, " + what + ")", mill.look(0, what), stack.look(what));
                due(seed, "look(1, " + what + ")", mill.look(1, what), registers.look(what));
            }
        }
        comparePeeks(seed, mill, stack, registers);
        endsSeen.merge(stack.end, 1, Integer::sum);
        if (stack.end != 0 && registers.end != 0) {
            comparedRuns++;
            due(seed, "both ends", registers.end, stack.end);
            due(seed, "both told", registers.told, stack.told);
            due(seed, "both made calls", registers.calls, stack.calls);
            due(seed, "both MEMORIES", Arrays.equals(registers.memory, stack.memory) ? 1 : 0, 1);
        }
    }

    private static void comparePeeks(int seed, RegisterMill mill, Machine stack, Machine registers) {
        for (int k = 0; k < 64; k++) {
            due(seed, "peek(0, " + k + ")", mill.peek(0, k), stack.memory[k]);
            due(seed, "peek(1, " + k + ")", mill.peek(1, k), registers.memory[k]);
        }
    }

    private static void compareFunc(int seed, String name, int f, Turned t, RegisterMill mill) {
        due(seed, name + "size", mill.size(f), t.ops.size());
        due(seed, name + "slots", mill.slots(f), t.slot.size());
        due(seed, name + "places", mill.places(f), t.places.size());
        for (int v = -1; v < 24; v++) {
            int[] span = t.spans.getOrDefault(v, new int[] {-1, -1});
            due(seed, name + "span of " + v, mill.value(f, v, 0), span[0]);
            due(seed, name + "span of " + v, mill.value(f, v, 1), span[1]);
            due(seed, name + "register of " + v, mill.value(f, v, 2), t.register.getOrDefault(v, -1));
            due(seed, name + "slot of " + v, mill.value(f, v, 3), t.slot.getOrDefault(v, -1));
        }
        for (int i = 0; i < t.ops.size(); i++) {
            kindsSeen.merge("op" + t.ops.get(i)[0], 1, Integer::sum);
            for (int what = 0; what < 5; what++) {
                try {
                    due(seed, name + "op " + i + " part " + what, mill.op(f, i, what), t.ops.get(i)[what]);
                } catch (NoSuchElementException e) {
                    due(seed, name + "op " + i + " part " + what + " throws", 1, 0);
                }
            }
        }
    }
}
