import java.util.NoSuchElementException;
import java.util.Random;

/** Any call with any arguments in any state: nothing is thrown but what the document names. */
public final class AnyCallTest {
    private static final int RUNS = 6000;
    private static final int CALLS = 512;
    private static final int[] EDGES = {
        Integer.MIN_VALUE, -1, 0, 1, 2, 3, 5, 6, 7, 10, 11, 12, 13, 16, 17, 18, 63, 64, 299, 300,
        19999, 20000, 20001, Integer.MAX_VALUE
    };

    private static int wrong = 0;
    private static long thrown = 0;
    private static long ran = 0;

    public static void main(String[] args) {
        for (int seed = 0; seed < RUNS && wrong < 10; seed++) {
            Random random = new Random(seed);
            RegisterMill x = new RegisterMill();
            for (int i = 0; i < CALLS; i++) {
                int method = random.nextInt(22);
                try {
                    call(x, method, random, i);
                } catch (NoSuchElementException e) {
                    thrown++;
                    require(seed, method, e);
                } catch (RuntimeException e) {
                    wrong++;
                    System.out.println("run " + seed + ", call " + i + ", method " + method + " threw " + e);
                }
            }
        }
        if (ran < RUNS / 10) {
            wrong++;
            System.out.println("too few programs ran: " + ran);
        }
        System.out.println("AnyCallTest: " + thrown + " NoSuchElementExceptions where they are due, " + ran
            + " runs, " + wrong + " wrong");
        if (wrong != 0) {
            System.exit(1);
        }
    }

    private static void require(int seed, int method, RuntimeException e) {
        if (method != 6 && method != 16) {
            wrong++;
            System.out.println("run " + seed + ", method " + method + " threw " + e);
        }
    }

    private static int any(Random random) {
        return random.nextInt(9) == 0 ? random.nextInt() : EDGES[random.nextInt(EDGES.length)];
    }

    private static int few(Random random, int most) {
        return random.nextInt(12) == 0 ? any(random) : random.nextInt(most);
    }

    private static void call(RegisterMill x, int method, Random random, int i) {
        switch (method) {
            case 0: x.func(few(random, 3), few(random, 6)); break;
            case 1: x.word(few(random, 18), few(random, 9)); break;
            case 2: x.check(); break;
            case 3: x.depth(few(random, 3), few(random, 9)); break;
            case 4: if (random.nextInt(4) == 0) x.clear(); break;
            case 5: x.turn(few(random, 17)); break;
            case 6: x.op(few(random, 3), few(random, 9), few(random, 5)); break;
            case 7: x.size(few(random, 3)); break;
            case 8: x.value(few(random, 3), few(random, 22), few(random, 4)); break;
            case 9: x.slots(few(random, 3)); break;
            case 10: x.places(few(random, 3)); break;
            case 11: x.cell(few(random, 64), any(random)); break;
            case 12: x.again(); break;
            case 13: ran += x.runStack(few(random, 99)) >= 0 ? 1 : 0; break;
            case 14: ran += x.runRegisters(few(random, 99)) >= 0 ? 1 : 0; break;
            case 15: x.look(few(random, 2), few(random, 5)); break;
            case 16: x.peek(few(random, 2), few(random, 64)); break;
            case 17: x.count(few(random, 5)); break;
            // Enough WORDS that put and tell, so that programs come to be checked.
            case 18: x.word(0, few(random, 9)); break;
            case 19: x.word(0, any(random)); x.word(random.nextInt(18), few(random, 9)); break;
            default: if (random.nextInt(3) == 0) x.word(0, 1); x.word(15, 0); break;
        }
    }
}
