import com.sun.management.ThreadMXBean;
import java.lang.management.ManagementFactory;
import java.lang.reflect.Array;
import java.lang.reflect.Field;
import java.lang.reflect.Modifier;
import java.util.IdentityHashMap;
import java.util.Map;
import java.util.NoSuchElementException;

/** No call throws what the document doesn't name, and calls make nothing anew: a run has one small room. */
public final class RoomTest {
    private static final int[] WILD = {0, 1, 2, 3, 4, 5, 6, 7, 8, 24, 39, 40, 60, 61, 99, 100, 200, 700, 701,
        -1, -2, -3, 1 << 25, 1 << 30, Integer.MAX_VALUE, Integer.MIN_VALUE, Integer.MIN_VALUE + 1};

    // The dearest TEXT: all is there, all laws ask much, SENDS and EVENTS all come soon.
    private static final String DEAR = "node a;node b;node c;node d;node e;node f;node g;"
        + "link 1 a b c d;link 1 b c d e;link 1 c d e f;link 1 d e f g;link 2 a g;link 3 b f;link 1 a b c;link 4 e f g;"
        + "source s a;source t d;source u g;"
        + "join a 0;join b 0;join c 0;join d 0;join e 0;join f 0;join g 0;cut 0 3;mend 0 5;cut 3 6;mend 3 9;leave c 7;join c 8;"
        + "send s 1;send t 2;send u 3;send s 4;send t 5;send u 6;send s 7;send t 8;send u 9;send s 10;send t 11;send u 12;"
        + "law metric far+place*tick-held*heard+twice/2;law switch heard>1 and tick>2 or twice;law keep 9+held-tick/3;"
        + "loss 33;seed 4;";

    private static int wrong = 0;
    private static int last = 1;
    private static long answers = 0;

    private static int draw(int below) {
        last = last * 1103515245 + 12345 & Integer.MAX_VALUE;
        return last / 65536 % below;
    }

    private static int wild() {
        return WILD[draw(WILD.length)];
    }

    private static void put(GroupTrees x, String text) {
        for (int i = 0; i < text.length(); i += 20) {
            int[] w = new int[5];
            for (int k = 0; k < 20; k++) {
                w[k / 4] = w[k / 4] << 8 | (i + k < text.length() ? text.charAt(i + k) : ' ');
            }
            x.feed(w[0], w[1], w[2], w[3], w[4]);
        }
    }

    private static GroupTrees of(String text) {
        GroupTrees x = new GroupTrees();
        put(x, text);
        if (x.text(text.length()) < 0) {
            wrong++;
            System.out.println("fault " + x.fault(0) + " at " + x.fault(1));
        }
        return x;
    }

    private static long call(GroupTrees x, int which, int a, int b, int c, int d) {
        switch (which) {
            case 0: return x.feed(a, b, c, d, a);
            case 1: return x.text(a);
            case 2: return x.fault(a);
            case 3: return x.named(a, b);
            case 4: return x.link(a, b);
            case 5: return x.far(a, b);
            case 6: return x.up(a, b, c);
            case 7: return x.held(a, b, c);
            case 8: return x.wants(a, b);
            case 9: return x.law(a, b, c);
            case 10: return x.listen(a);
            case 11: return x.cut(a);
            case 12: return x.send(a);
            case 13: return x.go(a);
            case 14: return x.ahead(a, b);
            case 15: return x.quiet(a);
            case 16: return x.settled();
            case 17: return x.way(a, b);
            case 18: return x.best(a);
            case 19: return x.least(a, b);
            case 20: return x.needed(a);
            case 21: return x.wide(a);
            case 22: return x.used(a);
            case 23: return x.rests(a, b, c);
            case 24: return x.rest(a, b, c, d);
            case 25: return x.holds(a, b);
            case 26: return x.note(a, b, c, (d & 1) == 0);
            case 27: return x.strike(a);
            case 28: return x.known(a) ? 1 : 0;
            case 29: return x.costs(a);
            case 30: return x.ask(a, b);
            case 31: return x.chance(a, b, c, d);
            case 32: return x.tried(a, b, c);
            case 33: return x.undo();
            case 34: return x.keep();
            case 35: return x.back();
            default: return x.count(a);
        }
    }

    private static void wildCalls() {
        for (int run = 0; run < 300; run++) {
            GroupTrees x = run % 3 == 0 ? new GroupTrees() : of(run % 3 == 1 ? DEAR : "node a;node b;link 9 a b;loss 50;");
            for (int i = 0; i < 400; i++) {
                int which = draw(38);
                int a = wild();
                int b = wild();
                int c = wild();
                int d = wild();
                try {
                    if (which == 37) {
                        nodeCall(x, a, b);
                    } else if (which != 1 || draw(20) == 0) {
                        call(x, which, a, b, c, d);
                    }
                } catch (RuntimeException | Error e) {
                    wrong++;
                    System.out.println("call " + which + " of " + a + " " + b + " " + c + " " + d + " threw " + e);
                }
            }
        }
    }

    private static void nodeCall(GroupTrees x, int a, int b) {
        boolean there = a >= 0 && a < x.count(0);
        try {
            x.node(a, b);
            if (!there || b < 0 || b > 4) {
                wrong++;
                System.out.println("node " + a + " " + b + " answered");
            }
        } catch (IndexOutOfBoundsException e) {
            if (there || e.getClass() != IndexOutOfBoundsException.class) {
                wrong++;
                System.out.println("node " + a + " " + b + " threw " + e);
            }
        } catch (NoSuchElementException e) {
            if (!there || b >= 0 && b <= 4) {
                wrong++;
                System.out.println("node " + a + " " + b + " threw " + e);
            }
        }
    }

    /** Random bytes as a TEXT: only a FAULT may come of it. */
    private static void wildTexts() {
        String signs = "node link meet source join leave cut mend send hold loss seed law metric switch keep or and not "
            + "far place heard twice held tree tick a b c d 0 1 7 8 9 10 99 100 9999 ( ) < <= = <> >= > + - * / ; ; ; ;";
        String[] tokens = signs.split(" ");
        for (int run = 0; run < 20000; run++) {
            StringBuilder text = new StringBuilder("node a;node b;");
            if (draw(3) == 0) {
                text.append("link 1 a b;law keep ");
            }
            for (int i = draw(60); i > 0 && text.length() < 680; i--) {
                text.append(tokens[draw(tokens.length)]).append(draw(3) == 0 ? "" : " ");
            }
            GroupTrees x = new GroupTrees();
            put(x, text.toString());
            int n = text.length();
            int lines = x.text(n);
            if (lines == -1 ? x.fault(0) < 1 || x.fault(0) > 4 || x.fault(1) < 0 || x.fault(1) > n : x.fault(0) != 0) {
                wrong++;
                System.out.println("text " + text + " answered " + lines + ", fault " + x.fault(0) + " at " + x.fault(1));
            }
            answers += x.go(5) + x.settled();
        }
    }

    /** The dearest calls, 512 to an object, and the bytes that they make. */
    private static long bytesOfCalls(ThreadMXBean threads, GroupTrees x) {
        long before = threads.getThreadAllocatedBytes(Thread.currentThread().getId());
        for (int i = 0; i < 480; i++) {
            int which = 2 + i % 35;
            answers += call(x, which, which == 13 ? 1 : i % 3, which == 31 ? 40 : i % 4, which == 31 ? 3 : i % 7, 2);
        }
        return threads.getThreadAllocatedBytes(Thread.currentThread().getId()) - before;
    }

    private static void room() {
        ThreadMXBean threads = (ThreadMXBean) ManagementFactory.getThreadMXBean();
        bytesOfCalls(threads, of(DEAR));
        long bytes = bytesOfCalls(threads, of(DEAR));
        if (bytes > 512) {
            wrong++;
            System.out.println("480 calls made " + bytes + " bytes anew");
        }
        Map<Object, Boolean> seen = new IdentityHashMap<>();
        long parts = parts(new GroupTrees(), seen);
        System.out.println("an object has " + seen.size() + " objects and arrays, " + parts + " fields and elements");
        if (seen.size() > 100 || parts > 10000) {
            wrong++;
            System.out.println("that is too much");
        }
    }

    private static long parts(Object o, Map<Object, Boolean> seen) {
        if (o == null || seen.put(o, true) != null) {
            return 0;
        }
        if (o.getClass().isArray()) {
            return Array.getLength(o);
        }
        long sum = 0;
        for (Field f : o.getClass().getDeclaredFields()) {
            if (!Modifier.isStatic(f.getModifiers())) {
                sum++;
                f.setAccessible(true);
                try {
                    sum += f.getType().isPrimitive() ? 0 : parts(f.get(o), seen);
                } catch (IllegalAccessException e) {
                    throw new IllegalStateException(e);
                }
            }
        }
        return sum;
    }

    private static void dearest() {
        long begin = System.nanoTime();
        GroupTrees x = of(DEAR);
        for (int i = 0; i < 470; i++) {
            answers += x.chance(i, 40, i % 7, 5);
        }
        System.out.println("470 times chance of 40 took " + (System.nanoTime() - begin) / 1000000 + " ms");
    }

    public static void main(String[] args) {
        wildCalls();
        wildTexts();
        room();
        dearest();
        System.out.println(wrong == 0 ? "nothing is wrong" : wrong + " are wrong");
        if (wrong > 0 || answers == 42) {
            System.exit(1);
        }
    }
}
