import java.util.HashSet;
import java.util.NoSuchElementException;
import java.util.Set;
import java.util.function.Supplier;
import java.util.function.ToLongFunction;

/** What the tests of edges share: answers that are due, texts, and that a call leaves all as it was. */
final class Checks {
    static final int NO_NODE = -1001;
    static final int NO_WHAT = -1002;
    static final int[] WILD = {Integer.MIN_VALUE, Integer.MIN_VALUE + 1, -100, -2, -1, 0, 1, 2, 3, 4, 5, 6, 7, 8, 9,
        16, 24, 40, 60, 61, 99, 100, 200, 201, 700, 9000, Integer.MAX_VALUE - 1, Integer.MAX_VALUE};

    /**
     * All there is: by TICK 4 some are HEARD, TWICE, MISSED, REGISTERS, SUPPRESSED, ASSERTS, SWITCHED to both,
     * and behind it numbers, cuts, holding and switching make a difference to who hears.
     */
    static final String RICH = "node a;node b;node c;node d;link 2 b a;link 2 b c d;link 2 d a;link 1 b d c;meet a;"
        + "source s b;source t d;join c 0;join a 1;join b 0;leave b 3;join c 8;cut 2 2;cut 0 8;mend 0 5;"
        + "send s 0;send s 1;send s 2;send s 10;send s 8;send s 7;send t 3;send t 7;send t 9;"
        + "loss 30;seed 52;hold 3;law metric 9 - place * tick;law switch heard > 1;law keep 4 - held;";
    static final int RICH_LINES = 34;

    private static final Set<String> SENTENCES = new HashSet<>();
    private static String sentence = "";
    private static int checks = 0;
    private static int wrong = 0;

    private Checks() {
    }

    /** The document's words that the answers behind this belong to. */
    static void about(String words) {
        sentence = words;
        SENTENCES.add(words);
    }

    static void due(String what, long got, long want) {
        checks++;
        if (got != want) {
            wrong++;
            System.out.println("[" + sentence + "] " + what + ": answered " + got + ", due is " + want);
        }
    }

    static void holds(String what, boolean so) {
        due(what, so ? 1 : 0, 1);
    }

    static void same(String what, String got, String want) {
        checks++;
        if (!got.equals(want)) {
            wrong++;
            String[] one = got.split(" ");
            String[] other = want.split(" ");
            int at = 0;
            while (at < one.length - 1 && at < other.length - 1 && one[at].equals(other[at])) {
                at++;
            }
            System.out.println("[" + sentence + "] " + what + ": " + one[at] + ", due is " + other[at]);
        }
    }

    static void end() {
        System.out.println(SENTENCES.size() + " sentences, " + checks + " answers looked at, " + wrong + " are wrong");
        if (wrong > 0) {
            System.exit(1);
        }
    }

    static void put(GroupTrees x, String text) {
        for (int i = 0; i < text.length(); i += 20) {
            feed(x, text, i);
        }
    }

    /** Twenty bytes of a text from a place on, blanks behind its end. */
    static int feed(GroupTrees x, String text, int from) {
        int[] w = new int[5];
        for (int k = 0; k < 20; k++) {
            w[k / 4] = w[k / 4] << 8 | (from + k < text.length() ? text.charAt(from + k) : ' ');
        }
        return x.feed(w[0], w[1], w[2], w[3], w[4]);
    }

    static int tell(GroupTrees x, String text) {
        put(x, text);
        return x.text(text.length());
    }

    static GroupTrees of(String text) {
        GroupTrees x = new GroupTrees();
        int lines = tell(x, text);
        if (lines < 0) {
            wrong++;
            System.out.println("[" + sentence + "] fault " + x.fault(0) + " at " + x.fault(1) + " of the test's own text " + text);
        }
        return x;
    }

    static GroupTrees of(String text, int ticks) {
        GroupTrees x = of(text);
        x.go(ticks);
        return x;
    }

    static int code(String name) {
        int code = 0;
        for (int i = 0; i < 6; i++) {
            code = code << 5 | (i < name.length() ? name.charAt(i) - 'a' + 1 : 0);
        }
        return code;
    }

    /** node(), its exceptions told as numbers; only the very classes of the document are them. */
    static long node(GroupTrees x, int node, int what) {
        try {
            return x.node(node, what);
        } catch (IndexOutOfBoundsException e) {
            return e.getClass() == IndexOutOfBoundsException.class ? NO_NODE : -1003;
        } catch (NoSuchElementException e) {
            return e.getClass() == NoSuchElementException.class ? NO_WHAT : -1004;
        }
    }

    private static final class Page {
        final StringBuilder text = new StringBuilder();

        void add(String call, long answer) {
            text.append(call).append('=').append(answer).append(' ');
        }
    }

    /** All that can be asked without changing anything, for a small text some 300 calls. */
    static String shown(GroupTrees x) {
        Page page = new Page();
        for (int what = 0; what <= 16; what++) {
            page.add("count(" + what + ")", x.count(what));
        }
        page.add("fault(0)", x.fault(0));
        page.add("fault(1)", x.fault(1));
        int nodes = x.count(0);
        int trees = x.count(2) + 1;
        for (int node = 0; node < nodes; node++) {
            for (int what = 0; what < 5; what++) {
                page.add("node(" + node + "," + what + ")", node(x, node, what));
            }
        }
        for (int link = 0; link < x.count(1); link++) {
            for (int what = 0; what < 3; what++) {
                page.add("link(" + link + "," + what + ")", x.link(link, what));
            }
            page.add("costs(" + link + ")", x.costs(link));
            page.add("ask(" + link + ",2)", x.ask(link, 2));
        }
        for (int tree = 0; tree < trees; tree++) {
            for (int node = 0; node < nodes; node++) {
                showOne(page, x, tree, node);
            }
            page.add("quiet(" + tree + ")", x.quiet(tree));
            page.add("needed(" + tree + ")", x.needed(tree));
        }
        page.add("settled()", x.settled());
        page.add("best(0)", x.best(0));
        for (int what = 0; what < 5; what++) {
            page.add("ahead(9," + what + ")", x.ahead(9, what));
            page.add("tried(" + what + ",0,9)", x.tried(what, 0, 9));
        }
        page.add("chance(7,9,0,2)", x.chance(7, 9, 0, 2));
        page.add("holds(3,0)", x.holds(3, 0));
        return page.text.toString();
    }

    private static void showOne(Page page, GroupTrees x, int tree, int node) {
        String at = "(" + tree + "," + node + ")";
        page.add("far" + at, x.far(tree, node));
        page.add("up" + at, x.up(tree, node, 0) * 8 + x.up(tree, node, 1));
        page.add("wants" + at, x.wants(tree, node));
        page.add("way" + at, x.way(tree, node));
        for (int law = 0; law < 3; law++) {
            page.add("law" + law + at, x.law(law, tree, node));
        }
        for (int link = 0; link < x.count(1); link++) {
            page.add("held" + at + link, x.held(tree, node, link));
        }
    }

    /** TICK 5, three things to undo, an IMAGE of TICK 4, NOTES, not all KNOWN, twenty bytes on the TAPE. */
    static GroupTrees rich() {
        GroupTrees x = of(RICH, 4);
        x.note(0, 3, 4, true);
        x.strike(0);
        x.note(1, 2, 1, false);
        x.known(2);
        x.keep();
        x.go(1);
        x.listen(3);
        x.cut(1);
        x.send(0);
        put(x, "node q;node r;");
        return x;
    }

    static final int PROBES = 6;

    /** Shows, in several ways, also what can't be asked: numbers, what is undone, the IMAGE, the TAPE. */
    static String probe(GroupTrees x, int way) {
        StringBuilder more = new StringBuilder();
        switch (way) {
            case 1:
                for (int i = 0; i < 4; i++) {
                    more.append("undo=").append(x.undo()).append(" far=").append(x.far(1, 3))
                        .append(" listeners=").append(x.count(5)).append(' ');
                }
                break;
            case 2:
                more.append("go=").append(x.go(4)).append(' ');
                break;
            case 3:
                more.append("back=").append(x.back()).append(' ');
                break;
            case 4:
                int size = feed(x, "node z;", 0);
                more.append("feed=").append(size).append(" text=").append(x.text(size)).append(' ');
                break;
            case 5:
                more.append("note=").append(x.note(0, 1, 1, true)).append(" known=").append(x.known(-1) ? 1 : 0).append(' ');
                break;
            default:
                break;
        }
        return more.append(shown(x)).toString();
    }

    /** A call of which this answer is due, and behind which all is as without it. */
    static void stays(String what, Supplier<GroupTrees> made, ToLongFunction<GroupTrees> call, long want) {
        for (int way = 0; way < PROBES; way++) {
            GroupTrees x = made.get();
            due(what, call.applyAsLong(x), want);
            same(what + ", all stays (" + way + ")", probe(x, way), probe(made.get(), way));
        }
    }
}
