import java.math.BigInteger;

/** The edges of promises 6 to 16: TREES, what is HELD and wanted, laws, TICKS, PACKETS. */
public final class TickEdgesTest {
    private static final String SEVEN = "node a;node b;node c;node d;node e;node f;node g;";
    private static final String PAIR = "node a;node b;link 1 a b;source s a;";
    // d has two ways to a, by b and by c, on one LINK.
    private static final String FORK = "node a;node b;node c;node d;link 1 a b;link 1 a c;link 1 b c d;source s a;";
    // The source is beyond b, which stands between the meeting node and c.
    private static final String BAR = "node m;node b;node c;node a;link 1 m b;link 1 b c;link 1 a b;meet m;source s a;hold 9;";
    private static final long ERROR = Long.MIN_VALUE;

    private static void about(String words) {
        Checks.about(words);
    }

    private static void due(String what, long got, long want) {
        Checks.due(what, got, want);
    }

    private static GroupTrees of(String text) {
        return Checks.of(text);
    }

    private static GroupTrees of(String text, int ticks) {
        return Checks.of(text, ticks);
    }

    private static boolean within(int number, int below) {
        return number >= 0 && number < below;
    }

    private static void noSuchOnes() {
        for (int one : Checks.WILD) {
            GroupTrees x = Checks.rich();
            for (int other : Checks.WILD) {
                boolean node = within(one, 4);
                about("6: IndexOutOfBoundsException: no such NODE; NoSuchElementException: no such what");
                long got = Checks.node(x, one, other);
                due("node " + one + " " + other, node && within(other, 5) ? Math.min(got, 0) : got,
                    !node ? Checks.NO_NODE : within(other, 5) ? 0 : Checks.NO_WHAT);
                about("7: NONE: no such ones");
                refusedOrNot("link " + one + " " + other, x.link(one, other), within(one, 4) && within(other, 3));
                about("8: NONE: no such TREE, NODE");
                refusedOrNot("far " + one + " " + other, x.far(one, other), within(one, 3) && within(other, 4));
                about("11: NONE: no such ones");
                refusedOrNot("wants " + one + " " + other, x.wants(one, other), within(one, 3) && within(other, 4));
            }
            for (int other : Checks.WILD) {
                about("9: NONE: no such ones");
                refusedOrNot("up of tree " + one + ", what " + other, Math.max(x.up(one, 2, other), -1), within(one, 3) && within(other, 2));
                refusedOrNot("up of tree " + one + ", node " + other, x.up(one, other, 0) == -2 ? 0 : x.up(one, other, 0), within(one, 3) && within(other, 4));
                about("10: NONE: no such ones");
                refusedOrNot("held of tree " + one + ", node " + other, x.held(one, other, 0), within(one, 3) && within(other, 4));
                refusedOrNot("held of node " + one + ", link " + other, x.held(2, one, other), within(one, 4) && within(other, 4));
                about("12: Long.MIN_VALUE: no such law, no such TREE, NODE, switch of TREE 0");
                Checks.holds("law " + one + " of tree " + other, (x.law(one, other, 3) == ERROR) == !(within(one, 3) && within(other, 3) && (one != 1 || other != 0)));
                Checks.holds("law of tree " + one + ", node " + other, (x.law(2, one, other) == ERROR) == !(within(one, 3) && within(other, 4)));
            }
        }
    }

    private static void refusedOrNot(String what, long got, boolean there) {
        due(what, there ? Math.min(got, 0) : got, there ? 0 : -1);
    }

    private static void ofNoNodes() {
        about("6 to 16: of a TEXT without NODES");
        GroupTrees x = of("hold 2;law keep 1;law metric 1;law switch 1;");
        due("node", Checks.node(x, 0, 9), Checks.NO_NODE);
        due("far", x.far(0, 0), -1);
        due("up", x.up(0, 0, 0), -1);
        due("held", x.held(0, 0, 0), -1);
        due("wants", x.wants(0, 0), -1);
        due("law", x.law(0, 0, 0), ERROR);
        due("listen", x.listen(0), -1);
        due("cut", x.cut(0), -1);
        due("send", x.send(0), -1);
        due("go", x.go(3), 3);
        due("nothing to undo", x.count(16), 0);
        about("6 to 16: of one NODE without LINKS");
        GroupTrees y = of("node a;source s a;law metric 1;");
        due("far", y.far(1, 0), 0);
        due("root", y.up(0, 0, 0), -2);
        due("no link", y.held(0, 0, 0), -1);
        due("listens", y.listen(0), 1);
        due("hears", y.send(0), 1);
        due("by both trees", y.node(0, 3), 1);
        due("goes", y.go(1), 1);
    }

    private static void distances() {
        about("2: FAR: the least COST in sum over whole LINKS from ROOT");
        GroupTrees x = of(SEVEN + "link 9 a b;link 9 b c;link 9 c d;link 9 d e;link 9 e f;link 9 f g;source s g;");
        for (int node = 0; node < 7; node++) {
            due("the longest, " + node, x.far(0, node), 9 * node);
            due("from the other end, " + node, x.far(1, node), 54 - 9 * node);
        }
        due("up link", x.up(0, 6, 0), 5);
        due("up node", x.up(0, 6, 1), 5);
        about("2: 99: none leads there");
        x.cut(5);
        due("cut off", x.far(0, 6), 99);
        due("the last there", x.far(0, 5), 45);
        due("all but the root", x.far(1, 5), 99);
        due("root", x.far(1, 6), 0);
        x.cut(5);
        due("mended", x.far(0, 6), 54);
        due("not on a link at all", of("node a;node b;").far(0, 1), 99);
        about("2: one goes from any NODE of a LINK to any other one");
        GroupTrees y = of("node a;node b;node c;node d;link 5 a b c d;meet c;");
        due("a", y.far(0, 0), 5);
        due("b", y.far(0, 1), 5);
        due("c", y.far(0, 2), 0);
        due("d", y.far(0, 3), 5);
        GroupTrees z = of("node a;node b;link 9 a b;link 1 a b;");
        due("the least of two", z.far(0, 1), 1);
        due("by it", z.up(0, 1, 0), 1);
        z.cut(1);
        due("the other", z.far(0, 1), 9);
        due("by that", z.up(0, 1, 0), 0);
        z.cut(0);
        due("none", z.far(0, 1), 99);
    }

    private static void climbing() {
        about("9: -2: it is ROOT, its FAR is 99");
        GroupTrees x = of(FORK + "node e;source t d;");
        for (int what = 0; what < 2; what++) {
            due("root", x.up(0, 0, what), -2);
            due("root of t", x.up(2, 3, what), -2);
            due("99", x.up(0, 4, what), -2);
            due("99 of t", x.up(2, 4, what), -2);
        }
        about("2: UP: the first whole LINK by numbers");
        GroupTrees y = of("node a;node b;" + "link 2 a b;".repeat(8));
        for (int link = 0; link < 8; link++) {
            due("link", y.up(0, 1, 0), link);
            y.cut(link);
        }
        due("none", y.up(0, 1, 0), -2);
        about("2: of these NODES that one of which E of metric is least, the first of several");
        due("without", of(FORK).up(0, 3, 1), 1);
        due("alike", of(FORK + "law metric 7;").up(0, 3, 1), 1);
        due("least place", of(FORK + "law metric place;").up(0, 3, 1), 1);
        due("most place", of(FORK + "law metric 0 - place;").up(0, 3, 1), 2);
        due("by one alone", of(FORK + "law metric place = 1;").up(0, 3, 1), 2);
        due("far apart", of(FORK + "law metric (3 - 2 * place) * 9999 * 9999 * 9999;").up(0, 3, 1), 2);
        about("2: FAR of it with an ERROR");
        due("b 1 by error, c 1", of(FORK + "law metric 1 / (place - 1);").up(0, 3, 1), 1);
        due("b 1 by error, c 2", of(FORK + "law metric 2 / (place - 1);").up(0, 3, 1), 1);
        due("b 1 by error, c 0", of(FORK + "law metric 0 / (place - 1);").up(0, 3, 1), 2);
        due("b 2, c 1 by error", of(FORK + "law metric 0 - 2 / (place - 2);").up(0, 3, 1), 2);
        due("b 1, c 1 by error", of(FORK + "law metric 0 - 1 / (place - 2);").up(0, 3, 1), 1);
        due("both by error", of(FORK + "law metric 1 / 0;").up(0, 3, 1), 1);
        String low = "node b;node c;node d;node a;link 1 a b;link 1 a c;link 1 b c d;meet a;";
        due("NODES 0 and 1, without", of(low).up(0, 2, 1), 0);
        due("NODES 0 and 1, alike", of(low + "law metric 5;").up(0, 2, 1), 0);
        due("NODES 0 and 1, place", of(low + "law metric place;").up(0, 2, 1), 0);
        due("NODES 0 and 1, less place", of(low + "law metric 0 - place;").up(0, 2, 1), 1);
        String beyond = "node a;node b;node c;node d;node e;link 1 a b;link 1 a c;link 1 b c d;link 5 d e;source s e;";
        due("FAR in that TREE: b 1, c 3", of(beyond + "law metric 3 * (place = 2) / (place - 1);").up(0, 3, 1), 1);
        due("in that of s: d 5, e 0", of(beyond + "law metric 1 / 0;").up(1, 1, 1), 3);
        about("9: no UP any more, whatever metric chose ahead");
        GroupTrees off = of(FORK + "law metric 0 - place;");
        due("c", off.up(0, 3, 1), 2);
        off.cut(2);
        due("cut off", off.up(0, 3, 1), -2);
        due("by link", off.up(0, 3, 0), -2);
        due("no way", off.way(0, 3), -2);
        due("nothing joined", off.listen(3) + off.go(1) + off.count(12), 2);
        about("2: a NODE whose FAR and the COST come to its own FAR");
        GroupTrees z = of("node a;node b;node c;node d;link 1 a b;link 5 a c;link 1 b c d;law metric 0 - place;");
        due("c is as far as d", z.up(0, 3, 1), 1);
        about("2: a later LINK never");
        GroupTrees w = of("node a;node b;node c;node d;link 1 a b;link 1 a c;link 1 d b;link 1 d c;law metric 0 - place;");
        due("link", w.up(0, 3, 0), 2);
        due("node", w.up(0, 3, 1), 1);
        w.cut(2);
        due("the other link, if the first is cut", w.up(0, 3, 0), 3);
        due("its node", w.up(0, 3, 1), 2);
    }

    private static void listeners() {
        about("13: LISTENS from now on, or no more, if it does; NONE: no such NODE");
        for (int node : Checks.WILD) {
            if (within(node, 4)) {
                GroupTrees x = Checks.rich();
                int was = x.node(node, 0);
                due("listen " + node, x.listen(node), 1 - was);
                due("so it is", x.node(node, 0), 1 - was);
                due("again", x.listen(node), was);
                due("as it was", x.node(node, 0), was);
                due("to undo", x.count(16), 5);
            } else {
                Checks.stays("listen " + node, Checks::rich, x -> x.listen(node), -1);
            }
        }
        about("2: if it stops LISTENING, it hasn't SWITCHED to any");
        String two = "node a;source s a;source t a;source u a;join a 0;";
        GroupTrees y = of(two, 1);
        y.send(0);
        y.send(2);
        due("two", y.node(0, 1), 5);
        y.listen(0);
        due("none", y.node(0, 1), 0);
        y.listen(0);
        due("nor again", y.node(0, 1), 0);
        GroupTrees z = of(two + "send s 0;send u 0;leave a 1;join a 1;", 1);
        due("by sends", z.node(0, 1), 5);
        z.go(1);
        due("it listens", z.node(0, 0), 1);
        due("left and joined in one tick", z.node(0, 1), 0);
        about("13: HELD, HEARD stay by it");
        GroupTrees w = of(PAIR + "join b 0;send s 1;", 2);
        w.listen(1);
        due("held", w.held(0, 0, 0), 4);
        due("heard", w.node(1, 2), 1);
    }

    private static void cutting() {
        about("14: CUT now, or whole, if it is; NONE: no such LINK");
        for (int link : Checks.WILD) {
            if (within(link, 4)) {
                GroupTrees x = Checks.rich();
                int was = x.link(link, 2);
                due("cut " + link, x.cut(link), 1 - was);
                due("so it is", x.link(link, 2), 1 - was);
                due("again", x.cut(link), was);
                due("cost", x.link(link, 0), link == 3 ? 1 : 2);
                due("to undo", x.count(16), 5);
            } else {
                Checks.stays("cut " + link, Checks::rich, x -> x.cut(link), -1);
            }
        }
        about("14: all eight LINKS");
        GroupTrees y = of("node a;node b;" + "link 2 a b;".repeat(8));
        for (int link = 0; link < 8; link++) {
            due("cut", y.cut(link), 1);
            due("far", y.far(0, 1), link == 7 ? 99 : 2);
        }
        for (int link = 0; link < 8; link++) {
            due("whole", y.cut(link), 0);
            due("far", y.far(0, 1), 2);
            due("by it", y.up(0, 1, 0), 0);
        }
    }

    private static void wanting() {
        about("2: WANTS: if HELD of it there is above 0 on any LINK");
        GroupTrees x = of(PAIR + "join b 0;leave b 1;hold 3;meet b;", 1);
        due("b is the root of it", x.wants(0, 1), 1);
        GroupTrees y = of(PAIR + "join b 0;leave b 1;hold 3;", 1);
        due("a for b", y.wants(0, 0), 1);
        y.cut(0);
        due("on a cut link", y.wants(0, 0), 1);
        y.go(2);
        due("1 left", y.held(0, 0, 0), 1);
        due("still", y.wants(0, 0), 1);
        y.go(1);
        due("gone", y.wants(0, 0), 0);
        about("2: the shared one also as LISTENER; that of SOURCE s also as LISTENER that SWITCHED to it");
        GroupTrees z = of("node a;node b;link 1 a b;source s a;source t a;hold 9;join b 0;", 1);
        due("shared", z.wants(0, 1), 1);
        due("not s", z.wants(1, 1), 0);
        z.send(0);
        due("s", z.wants(1, 1), 1);
        due("not t", z.wants(2, 1), 0);
        z.listen(1);
        due("no more", z.wants(0, 1) + z.wants(1, 1), 0);
        about("2: the MEETING NODE also that of each SOURCE, if it wants the shared one (ROOT of it or not)");
        GroupTrees w = of("node a;node b;node c;link 1 a b;link 1 b c;meet b;source s a;source t b;source u c;");
        for (int tree = 0; tree < 4; tree++) {
            due("nobody yet", w.wants(tree, 1), 0);
        }
        w.listen(1);
        for (int tree = 0; tree < 4; tree++) {
            due("as listener", w.wants(tree, 1), 1);
            due("another one doesn't", w.wants(tree, 0), 0);
        }
        w.listen(1);
        w.listen(0);
        w.go(1);
        for (int tree = 0; tree < 4; tree++) {
            due("by what it holds", w.wants(tree, 1), 1);
        }
        about("2: HELD of another TREE doesn't count");
        GroupTrees v = of(BAR + "join b 0;join c 0;law switch 0;", 2);
        due("a is held in the tree of s", v.held(1, 3, 2), 9);
        due("and wants it", v.wants(1, 3), 1);
        due("but not the shared one", v.wants(0, 3), 0);
        due("c wants the shared one alone", v.wants(1, 2), 0);
    }

    private static void events() {
        about("2: (1) EVENTS of this TICK, by their numbers");
        due("join, leave", of(PAIR + "join b 5;leave b 5;", 6).node(1, 0), 0);
        due("leave, join", of(PAIR + "leave b 5;join b 5;", 6).node(1, 0), 1);
        due("cut, mend", of(PAIR + "cut 0 5;mend 0 5;", 6).link(0, 2), 0);
        due("mend, cut", of(PAIR + "mend 0 5;cut 0 5;", 6).link(0, 2), 1);
        due("join twice", of(PAIR + "join b 5;join b 5;", 6).node(1, 0), 1);
        due("cut twice", of(PAIR + "cut 0 5;cut 0 5;", 6).link(0, 2), 1);
        due("leave nobody", of(PAIR + "leave b 5;", 6).node(1, 0), 0);
        due("mend what is whole", of(PAIR + "mend 0 5;", 6).link(0, 2), 0);
        String eight = "node a;node b;" + "link 1 a b;".repeat(8);
        for (int link = 0; link < 8; link++) {
            GroupTrees one = of(eight + "cut 2 0;cut 5 0;mend " + link + " 1;cut 7 1;", 2);
            for (int other = 0; other < 8; other++) {
                boolean cut = other == 7 || (other == 2 || other == 5) && other != link;
                due("mend " + link + ", link " + other, one.link(other, 2), cut ? 1 : 0);
            }
        }
        about("2: of this TICK: 0 .. 99");
        for (int tick : new int[] {0, 1, 98, 99}) {
            GroupTrees x = of(PAIR + "join b " + tick + ";cut 0 " + tick + ";");
            due("up to it", x.go(tick), tick);
            due("not yet", x.node(1, 0) + x.link(0, 2), 0);
            x.go(1);
            due("then", x.node(1, 0) + x.link(0, 2), 2);
            x.listen(1);
            x.cut(0);
            x.go(200);
            due("once", x.node(1, 0) + x.link(0, 2), 0);
        }
        about("2: SENDS of TICK 0 and 99");
        GroupTrees y = of(PAIR + "join a 0;send s 0;send s 99;", 1);
        due("at 0", y.node(0, 2), 1);
        y.go(98);
        due("up to 99", y.node(0, 2), 1);
        y.go(1);
        due("at 99", y.node(0, 2), 2);
        y.go(200);
        due("no more", y.node(0, 2), 2);
        about("2: the EVENTS come ahead of JOINS and SENDS");
        GroupTrees z = of(PAIR + "send s 5;join b 5;", 6);
        due("joined in that tick", z.held(0, 0, 0), 4);
        due("heard in that tick", z.node(1, 2), 1);
        due("left in that tick: not missed", of(PAIR + "send s 5;join b 4;leave b 5;", 6).count(6), 0);
        due("cut in that tick", of(PAIR + "send s 5;join b 4;cut 0 5;", 6).node(1, 4), 1);
    }

    private static void holding() {
        about("2: (2) each HELD above 0 is 1 less");
        GroupTrees x = of(PAIR + "join b 0;leave b 1;hold 20;", 1);
        for (int left = 20; left >= 0; left--) {
            due("left", x.held(0, 0, 0), left);
            due("count", x.count(12), left > 0 ? 1 : 0);
            x.go(1);
        }
        due("never below 0", x.held(0, 0, 0), 0);
        about("2: (2) comes ahead of (3)");
        GroupTrees y = of("node a;node b;node c;link 1 a b;link 1 b c;join c 0;leave c 1;hold 1;", 1);
        due("b for a tick", y.held(0, 1, 1), 1);
        y.go(1);
        due("gone", y.count(12), 0);
        due("so b never joined a", y.used(0), 0);
        GroupTrees z = of("node a;node b;node c;link 1 a b;link 1 b c;join c 0;leave c 1;hold 2;", 2);
        due("b has one left", z.held(0, 1, 1), 1);
        due("and joined a", z.held(0, 0, 0), 2);
        about("2: (3) by numbers each NODE: HELD by JOINS of this TICK ahead with");
        GroupTrees up = of("node c;node b;node a;link 1 a b;link 1 b c;meet a;join c 0;", 1);
        due("b by c", up.held(0, 1, 1), 4);
        due("a by b in the same tick", up.held(0, 2, 0), 4);
        GroupTrees down = of("node a;node b;node c;link 1 a b;link 1 b c;join c 0;", 1);
        due("b by c", down.held(0, 1, 1), 4);
        due("a not yet", down.held(0, 0, 0), 0);
        down.go(1);
        due("a by b", down.held(0, 0, 0), 4);
        GroupTrees own = of("node d;node m;node a;link 1 d m;link 1 m a;meet m;source s a;join d 0;", 1);
        due("m for d", own.held(0, 1, 0), 4);
        due("m joins a by then", own.held(1, 2, 1), 4);
        about("2: (3) has UP by then");
        GroupTrees by = of("node a;node b;node c;node d;node e;link 1 a b;link 1 a c;link 1 b c d e;join d 0;join e 0;law metric held;", 1);
        due("d joins b", by.held(0, 1, 2), 4);
        due("e joins c", by.held(0, 2, 2), 4);
        due("nobody is suppressed", by.count(10), 0);
        GroupTrees off = of(PAIR + "join b 0;cut 0 0;", 5);
        due("no up, no join", off.count(12), 0);
    }

    private static void suppressing() {
        about("2: (3) a JOIN came to that UP in that TREE on that LINK already: SUPPRESSED, HELD stays");
        GroupTrees x = of("node a;node b;node c;node d;link 1 a b c d;join b 0;join c 0;join d 0;law keep 5 + 10 * held;", 1);
        due("by the first", x.held(0, 0, 0), 5);
        due("two", x.count(10), 2);
        x.go(1);
        due("of this tick alone", x.held(0, 0, 0), 15);
        due("two more", x.count(10), 4);
        about("2: on that LINK");
        GroupTrees y = of("node a;node b;node c;link 1 a b;link 1 a c;join b 0;join c 0;", 1);
        due("two links", y.count(10), 0);
        due("both held", y.count(12), 2);
        GroupTrees mixed = of("node a;node b;node c;node d;link 1 a b d;link 1 a c;join b 0;join c 0;join d 0;", 1);
        due("d behind b, c between", mixed.count(10), 1);
        about("2: in that TREE");
        GroupTrees z = of("node a;node b;node c;link 1 a b c;source s a;source t a;join b 0;join c 0;law switch 1;send s 0;", 2);
        due("one in the shared tree each tick, one in that of s", z.count(10), 3);
        due("held in both", z.count(12), 2);
        about("2: to that UP");
        GroupTrees w = of("node a;node b;node c;node d;node e;link 1 a b;link 1 a c;link 1 b c d e;join d 0;join e 0;law metric held;", 1);
        due("one link, two ups", w.count(10), 0);
        about("2: HELD is in place of what it was, E of keep (of that UP; 1 .. 99)");
        due("place of the up", of(PAIR + "meet b;join a 0;law keep 7 + place;", 1).held(0, 1, 0), 8);
        due("far of the up", of(PAIR + "join b 0;law keep 7 + far;", 1).held(0, 0, 0), 7);
        due("its tree", of(BAR + "join b 0;law keep 5 + tree;", 2).held(1, 3, 2), 6);
        due("the tick", of(PAIR + "join b 3;law keep 5 + tick;", 4).held(0, 0, 0), 8);
        long[][] kept = {{-9999, 1}, {-1, 1}, {0, 1}, {1, 1}, {2, 2}, {98, 98}, {99, 99}, {100, 99}, {9999, 99}};
        for (long[] one : kept) {
            String keep = one[0] < 0 ? "0 - " + -one[0] : "" + one[0];
            due("keep " + keep, of(PAIR + "join b 0;hold 7;law keep " + keep + ";", 1).held(0, 0, 0), one[1]);
        }
        due("10 to the 12", of(PAIR + "join b 0;hold 7;law keep 1000*1000*1000*1000;", 1).held(0, 0, 0), 99);
        due("below 0 by that", of(PAIR + "join b 0;hold 7;law keep 0-1000*1000*1000*1000;", 1).held(0, 0, 0), 1);
        due("above 2 to the 32", of(PAIR + "join b 0;hold 7;law keep 4096*1024*1024+5;", 1).held(0, 0, 0), 99);
        due("more in place of less", of(PAIR + "join b 0;law keep 2 + 9 * tick;", 2).held(0, 0, 0), 11);
        due("less in place of more", of(PAIR + "join b 0;law keep 20 - 9 * tick;", 2).held(0, 0, 0), 11);
        about("2: hold without, with an ERROR");
        due("without", of(PAIR + "join b 0;hold 7;", 1).held(0, 0, 0), 7);
        due("by 0", of(PAIR + "join b 0;hold 7;law keep 1 / 0;", 1).held(0, 0, 0), 7);
        due("too much", of(PAIR + "join b 0;hold 7;law keep 1000*1000*1000*1000+1;", 1).held(0, 0, 0), 7);
        due("too little", of(PAIR + "join b 0;hold 7;law keep 0-1000*1000*1000*1000-1;", 1).held(0, 0, 0), 7);
    }

    private static void meeting() {
        about("2: a PACKET: the MEETING NODE is ROOT: it is there by itself");
        GroupTrees x = of(PAIR);
        x.send(0);
        due("no register", x.count(9), 0);
        about("2: else, if FAR of the MEETING NODE is less than 99, it is a REGISTER");
        GroupTrees y = of(PAIR + "meet b;");
        y.send(0);
        due("a register", y.count(9), 1);
        y.send(0);
        due("two", y.count(9), 2);
        about("2: else it doesn't come there (and is none)");
        y.cut(0);
        y.listen(1);
        due("nobody hears", y.send(0), 0);
        due("still two", y.count(9), 2);
        due("missed", y.node(1, 4), 1);
        about("2: the MEETING NODE has it by that: it is there by itself");
        GroupTrees z = of(PAIR + "meet b;join b 0;", 1);
        due("b joined a in the tree of s", z.held(1, 0, 0), 4);
        due("hears", z.send(0), 2);
        due("no register", z.count(9), 0);
        due("by both trees", z.node(1, 3), 1);
        about("2: tunnelled, it isn't LOST");
        GroupTrees w = of(PAIR + "meet b;join b 0;loss 100;", 1);
        due("hears by starting", w.send(0), 2);
        due("a register", w.count(9), 1);
        due("once", w.node(1, 3), 0);
    }

    private static void goingDown() {
        about("2: DOWN: each whole LINK on which its HELD in this TREE is above 0");
        GroupTrees x = of("node a;node b;node c;link 1 a b;link 1 b c;source s a;join c 0;law switch 0;hold 2;", 2);
        due("c hears", x.send(0), 4);
        x.cut(1);
        due("not over a cut link", x.send(0), 0);
        x.cut(1);
        x.listen(2);
        x.go(1);
        x.listen(2);
        due("b has one left", x.held(0, 1, 1), 1);
        due("hears by 1", x.send(0), 4);
        x.listen(2);
        x.go(1);
        x.listen(2);
        due("none left", x.send(0), 0);
        about("2: to the NODES on that LINK whose UP is that NODE by that LINK");
        GroupTrees y = of(FORK + "join b 0;join c 0;join d 0;law switch 0;", 3);
        due("each by its own up", y.send(0), 14);
        due("b and c aren't reached from one another", y.count(7), 0);
        GroupTrees z = of("node a;node b;node c;link 2 a b;link 1 a c;link 1 b c;source s a;join b 0;join c 0;law switch 0;", 3);
        due("b by its first link", z.up(0, 1, 0), 0);
        due("both", z.send(0), 6);
        about("2: LISTENERS who HEARD it: none who doesn't LISTEN");
        GroupTrees w = of("node a;node b;node c;link 1 a b;link 1 b c;source s a;join c 0;law switch 0;", 2);
        due("b passes it on, a starts it", w.send(0), 4);
        due("and hear nothing", w.count(6), 1);
        due("nor miss it", w.count(8), 0);
    }

    private static void asserting() {
        // TICK 0: d joins b; from TICK 1 on it joins c, while b is held until TICK 3.
        String wander = FORK + "join d 0;law metric 9 - place * tick;law switch 0;";
        about("2: another NODE sent there already: this one loses an ASSERT, nothing is sent");
        for (int tick = 0; tick < 6; tick++) {
            GroupTrees x = of(wander + "send s " + tick + ";", tick + 1);
            due("asserts at " + tick, x.count(11), tick == 2 || tick == 3 ? 1 : 0);
            due("heard at " + tick, x.node(3, 2), tick == 4 || tick == 5 ? 1 : 0);
        }
        // b and d both hold link 3 for e, c between them holds another one.
        GroupTrees three = of("node a;node b;node c;node d;node e;node f;link 1 a b;link 1 a c;link 1 a d;link 1 b d e;link 1 c f;"
            + "source s a;join e 0;join f 0;law metric 9 - place * tick;law switch 0;send s 2;", 3);
        due("d loses it, whoever sent elsewhere between", three.count(11), 1);
        due("e misses it", three.node(4, 4), 1);
        due("f hears it", three.node(5, 2), 1);
        about("2: a number, whoever is there; none for an ASSERT");
        // Numbers modulo 100 from seed 1 on: 38 58 13, then 15 51 27.
        String numbers = wander + "send s 2;send s 4;seed 1;loss ";
        due("27 isn't below 27", of(numbers + "27;", 5).node(3, 2), 1);
        due("27 is below 28", of(numbers + "28;", 5).node(3, 2), 0);
        due("an assert", of(numbers + "27;", 5).count(11), 1);
        about("2: it has sent there, LOST or not");
        due("13 is lost", of(numbers + "14;", 3).count(11), 1);
        due("b hasn't it, so c sends", of(numbers + "39;", 3).count(11), 0);
    }

    private static int below(long seed, int sends, int loss) {
        BigInteger number = BigInteger.valueOf(seed);
        int lost = 0;
        for (int i = 0; i < sends; i++) {
            number = number.multiply(BigInteger.valueOf(1103515245)).add(BigInteger.valueOf(12345)).mod(BigInteger.TWO.pow(31));
            lost += number.divide(BigInteger.valueOf(65536)).intValueExact() % 100 < loss ? 1 : 0;
        }
        return lost;
    }

    private static void losing() {
        about("2: Numbers: times 1103515245 and 12345, without what is above 31 bits, by 65536; modulo 100 below loss");
        String text = PAIR + "join b 0;law switch 0;hold 20;" + "send s 1;".repeat(7) + "send s 2;".repeat(7);
        for (int seed : new int[] {0, 1, 2, 77, 12345, 65536, 99998, 99999}) {
            for (int loss : new int[] {1, 2, 37, 49, 50, 51, 98, 99}) {
                GroupTrees x = of(text + "seed " + seed + ";loss " + loss + ";", 3);
                due("seed " + seed + ", loss " + loss, x.node(1, 4), below(seed, 14, loss));
                due("the others are heard", x.node(1, 2), 14 - below(seed, 14, loss));
            }
        }
        about("2: loss 0 or 100: no number");
        due("0", of(text + "seed 1;loss 0;", 3).node(1, 4), 0);
        due("100", of(text + "seed 1;loss 100;", 3).node(1, 4), 14);
        about("2: by call: without numbers: LOST, if loss is 50 at least");
        for (int loss : new int[] {0, 1, 49, 50, 51, 99, 100}) {
            for (int seed = 0; seed < 3; seed++) {
                GroupTrees x = of(PAIR + "join b 0;law switch 0;seed " + seed + ";loss " + loss + ";", 1);
                due("loss " + loss, x.send(0), loss < 50 ? 2 : 0);
                due("missed", x.node(1, 4), loss < 50 ? 0 : 1);
            }
        }
        about("2: what is asked and sent by call draws no numbers");
        GroupTrees still = of(text + "seed 9;loss 40;");
        GroupTrees asked = of(text + "seed 9;loss 40;");
        for (int i = 0; i < 3; i++) {
            asked.ahead(9, 0);
            asked.tried(1, 0, 9);
            asked.chance(5, 9, 1, 3);
            asked.quiet(0);
            asked.settled();
            asked.send(0);
            asked.undo();
            due("go", asked.go(1), still.go(1));
        }
        due("the same", asked.node(1, 2), still.node(1, 2));
    }

    private static void hearing() {
        about("2: HEARD as often as it came there by TREES: once, twice, never");
        GroupTrees x = of(BAR + "join b 0;join c 0;law switch 0;", 2);
        due("both hear", x.send(0), 6);
        due("b by both trees", x.node(1, 3), 1);
        due("heard is one", x.node(1, 2), 1);
        due("c by one", x.node(2, 3), 0);
        x.listen(0);
        due("m by both", x.send(0), 7);
        due("m twice", x.node(0, 3), 1);
        x.cut(1);
        due("c misses", x.send(0), 3);
        due("missed", x.node(2, 4), 1);
        due("not twice", x.node(2, 3), 0);
        about("2: in the shared TREE not to those that SWITCHED and to which it came in the TREE of s (these don't send it on)");
        GroupTrees y = of(BAR + "join b 0;join c 0;law switch place = 1;", 2);
        due("both hear", y.send(0), 6);
        due("b by both", y.node(1, 3), 1);
        due("b switched", y.node(1, 1), 1);
        due("c didn't", y.node(2, 1), 0);
        due("b alone", y.send(0), 2);
        due("once", y.node(1, 3), 1);
        due("c misses", y.node(2, 4), 1);
        about("2: SWITCHED, but it didn't come in the TREE of s");
        GroupTrees z = of(BAR + "join b 0;join c 0;law switch place = 1;", 1);
        due("by a register", z.send(0), 6);
        due("b switched", z.node(1, 1), 1);
        due("both again", z.send(0), 6);
        due("never twice", z.count(7), 0);
        about("2: STARTING there counts, whatever SWITCHED");
        GroupTrees m = of("node m;node a;link 1 m a;meet m;source s a;join m 0;", 1);
        due("hears", m.send(0), 1);
        due("twice", m.node(0, 3), 1);
        due("switched", m.node(0, 1), 1);
        m.send(0);
        due("twice again", m.node(0, 3), 2);
        GroupTrees a = of("node m;node a;link 1 m a;meet m;source s a;join a 0;", 1);
        due("the root hears", a.send(0), 2);
        due("by both", a.node(1, 3), 1);
        due("switched", a.node(1, 1), 1);
        a.send(0);
        due("not by the shared one then", a.node(1, 3), 1);
        due("heard", a.node(1, 2), 2);
        about("2: of another SOURCE it hasn't SWITCHED");
        GroupTrees t = of("node m;node a;link 1 m a;meet m;source s a;source t a;join a 0;", 1);
        t.send(0);
        t.send(1);
        due("twice of each", t.node(1, 3), 2);
        due("both then", t.node(1, 1), 3);
    }

    private static void switching() {
        about("2: if E of switch isn't 0 (1 without, with an ERROR)");
        String[] laws = {"0", "1", "0 - 1", "9999", "1 / 0", "1000*1000*1000*1000+1", "heard", "heard - 1", "heard = 1",
            "twice", "tree", "tree - 1", "place", "place - 1", "far", "far - 1", "held", "tick", "tick - 1"};
        int[] switched = {0, 1, 1, 1, 1, 1, 1, 0, 1, 0, 1, 0, 1, 0, 1, 0, 0, 1, 0};
        for (int i = 0; i < laws.length; i++) {
            GroupTrees x = of(PAIR + "join b 0;law switch " + laws[i] + ";", 1);
            due("heard", x.send(0), 2);
            due("switch " + laws[i], x.node(1, 1), switched[i]);
        }
        GroupTrees none = of(PAIR + "join b 0;", 1);
        none.send(0);
        due("without", none.node(1, 1), 1);
        about("2: TREE 1 and s");
        GroupTrees y = of("node a;source s a;source t a;source u a;join a 0;law switch tree - 2;", 1);
        for (int source = 0; source < 3; source++) {
            y.send(source);
        }
        due("not t", y.node(0, 1), 5);
        about("2: to which it came in the shared TREE");
        GroupTrees z = of(PAIR + "meet b;join a 0;cut 0 1;", 2);
        due("a by its own tree alone", z.send(0), 1);
        due("hasn't switched", z.node(0, 1), 0);
        about("2: each LISTENER");
        GroupTrees w = of("node a;node b;node c;link 1 a b;link 1 b c;source s a;join c 0;", 2);
        w.send(0);
        due("b passes it on", w.node(1, 1), 0);
        due("c switched", w.node(2, 1), 1);
    }

    private static long formula(String e, int node) {
        return of(PAIR + "law keep " + e + ";").law(2, 0, node);
    }

    private static String power(int bits) {
        return bits <= 13 ? "" + (1 << bits) : "8192*" + power(bits - 13);
    }

    private static void values() {
        about("2: / is cut towards 0");
        int[] sides = {-7, -2, -1, 0, 1, 2, 7, 9999};
        for (int one : sides) {
            for (int other : sides) {
                String a = one < 0 ? "(0-" + -one + ")" : "" + one;
                String b = other < 0 ? "(0-" + -other + ")" : "" + other;
                due(a + "/" + b, formula(a + "/" + b, 0), other == 0 ? ERROR : one / other);
                due(a + "*" + b, formula(a + "*" + b, 0), (long) one * other);
                due(a + "-" + b, formula(a + "-" + b, 0), one - other);
                due(a + "<" + b, formula(a + "<" + b, 0), one < other ? 1 : 0);
                due(a + "<=" + b, formula(a + "<=" + b, 0), one <= other ? 1 : 0);
                due(a + "=" + b, formula(a + "=" + b, 0), one == other ? 1 : 0);
                due(a + "<>" + b, formula(a + "<>" + b, 0), one != other ? 1 : 0);
                due(a + ">=" + b, formula(a + ">=" + b, 0), one >= other ? 1 : 0);
                due(a + ">" + b, formula(a + ">" + b, 0), one > other ? 1 : 0);
                due(a + " and " + b, formula(a + " and " + b, 0), one != 0 && other != 0 ? 1 : 0);
                due(a + " or " + b, formula(a + " or " + b, 0), one != 0 || other != 0 ? 1 : 0);
            }
            due("not " + one, formula(one < 0 ? "not (0-" + -one + ")" : "not " + one, 0), one == 0 ? 1 : 0);
        }
        about("2: ERROR: a value above 10 to the 12 or below 0 by more than that");
        String top = "1000*1000*1000*1000";
        due("just so", formula(top, 0), 1000000000000L);
        due("one more", formula(top + "+1", 0), ERROR);
        due("one less", formula(top + "-1", 0), 999999999999L);
        due("below 0", formula("0-" + top, 0), -1000000000000L);
        due("one below that", formula("0-" + top + "-1", 0), ERROR);
        due("by times", formula("(0-" + top + ")*1", 0), -1000000000000L);
        due("by times, more", formula("(1000*1000)*(1000*1000+1)", 0), ERROR);
        due("by times, below", formula("(0-1000*1000)*(1000*1000+1)", 0), ERROR);
        due("by times, both below", formula("(0-1000*1000)*(0-1000*1000)", 0), 1000000000000L);
        due("by times, just so below", formula("(1000*1000)*(0-1000*1000)", 0), -1000000000000L);
        due("in between", formula("(" + top + "+1)-1", 0), ERROR);
        due("in a comparison", formula(top + "+1>0", 0), ERROR);
        due("times 0", formula("0*(" + top + "+1)", 0), ERROR);
        due("not of it", formula("not (1/0)", 0), ERROR);
        due("0 times the highest", formula("0*(" + top + ")", 0), 0);
        due("the highest by itself", formula(top + "/(" + top + ")", 0), 1);
        due("2 to the 64 isn't 0", formula("4096*1024*1024*(4096*1024*1024)", 0), ERROR);
        due("2 to the 63", formula("4096*1024*1024*(2048*1024*1024)", 0), ERROR);
        for (int bits = 0; bits < 40; bits++) {
            due("2 to the " + bits, formula(power(bits), 0), 1L << bits);
        }
        for (int bits = 25; bits < 40; bits++) {
            due("2 to the 64 by " + bits + " bits", formula("(" + power(bits) + ")*(" + power(64 - bits) + ")", 0), ERROR);
        }
        about("2: both sides are worked out");
        for (String sign : new String[] {"and", "or", "+", "-", "*", "<", "="}) {
            due("0 " + sign, formula("0 " + sign + " (1/0)", 0), ERROR);
            due("1 " + sign, formula("1 " + sign + " (1/0)", 0), ERROR);
            due(sign + " 0", formula("(1/0) " + sign + " 0", 0), ERROR);
        }
        about("1: E, A, B, C, S, T, P: what binds closer");
        due("from the left: -", formula("2-3-4", 0), -5);
        due("from the left: - +", formula("2-3+4", 0), 3);
        due("from the left: / *", formula("100/7*7", 0), 98);
        due("from the left: * /", formula("7*3/2", 0), 10);
        due("from the left: + -", formula("7+3-2", 0), 8);
        due("from the left: / /", formula("100/7/2", 0), 7);
        due("* ahead of +", formula("2+3*4+5", 0), 19);
        due("+ ahead of <", formula("1+1<1+2", 0), 1);
        due("< ahead of not", formula("not 0<1", 0), 0);
        due("not ahead of and", formula("not 0 and 0", 0), 0);
        due("and ahead of or", formula("1 or 1 and 0", 0), 1);
        due("and ahead of or, first", formula("0 and 1 or 1", 0), 1);
        due("brackets", formula("(2+3)*(4-5)", 0), -5);
        due("or in brackets", formula("(1 or 0)*7", 0), 7);
        due("and in brackets", formula("(1 and 1)*7", 0), 7);
        due("not in brackets", formula("(not 0)*7", 0), 7);
        due("a comparison in brackets", formula("(1<2)*7", 0), 7);
        due("or behind and in brackets", formula("(0 and 0 or 1) and 0", 0), 0);
        due("eight of them", formula("((((((((7))))))))", 0), 7);
        due("63 times not", formula("not ".repeat(63) + "0", 0), 1);
        due("31 sums", formula("9999+".repeat(31) + "9999", 0), 319968);
    }

    private static void names() {
        about("2: NAMES, of a NODE, all as they are by then");
        GroupTrees x = of(BAR + "join b 0;join c 0;law metric far*1000+place*100+held;law keep 50+tree*1000+tick;", 2);
        due("far 99", of("node a;node b;law keep far;").law(2, 0, 1), 99);
        due("far, place, held of b in the tree of s", x.law(0, 1, 1), 1101);
        due("of b in the shared tree", x.law(0, 0, 1), 1101);
        due("of c", x.law(0, 0, 2), 2200);
        due("tree and tick", x.law(2, 1, 0), 1052);
        due("tree 0", x.law(2, 0, 0), 52);
        GroupTrees y = of(BAR + "join b 0;join c 0;law switch (heard*100+twice)*(tick>5);", 2);
        y.send(0);
        y.go(4);
        y.send(0);
        due("heard and twice of b", y.law(1, 1, 1), 202);
        due("heard and twice of c", y.law(1, 1, 2), 200);
        due("of m", y.law(1, 1, 0), 0);
        about("2: held: on how many LINKS");
        GroupTrees z = of(SEVEN + "link 1 a b;link 1 a c;link 1 a d;link 1 a e;link 1 a f;link 1 a g;law keep held;"
            + "join b 0;join c 0;join d 0;join e 0;join f 0;join g 0;", 1);
        due("six", z.law(2, 0, 0), 6);
        due("as they were by then: 0 and 1 are 1", z.held(0, 0, 0) * 10 + z.held(0, 0, 1), 11);
        due("2", z.held(0, 0, 2), 2);
        due("5", z.held(0, 0, 5), 5);
    }

    private static void sending() {
        about("15: NONE: no such SOURCE");
        for (int source : Checks.WILD) {
            if (!within(source, 2)) {
                Checks.stays("send " + source, Checks::rich, x -> x.send(source), -1);
            }
        }
        due("of none", of("node a;").send(0), -1);
        GroupTrees x = of("node a;source s a;source t a;source u a;join a 0;", 1);
        due("the third", x.send(2), 1);
        due("no fourth", x.send(3), -1);
        about("15: LISTENERS (bits): none, all");
        due("none", of(PAIR).send(0), 0);
        GroupTrees all = of(SEVEN + "link 1 a b c d;link 1 d e f g;source s d;join a 0;join b 0;join c 0;join d 0;join e 0;join f 0;join g 0;", 3);
        due("all seven", all.send(0), 127);
    }

    private static GroupTrees at(int tick) {
        GroupTrees x = of(Checks.RICH);
        for (int i = 0; i < tick / 200; i++) {
            x.go(200);
        }
        x.go(tick % 200);
        x.keep();
        x.listen(0);
        return x;
    }

    private static void going() {
        about("16: So many TICKS (0 .. 200)");
        for (int n : Checks.WILD) {
            if (n >= 0 && n <= 200) {
                due("go " + n, of(Checks.RICH).go(n), n);
            } else {
                Checks.stays("go " + n, Checks::rich, x -> x.go(n), -1);
            }
        }
        about("16: go(0) changes nothing");
        Checks.stays("go 0", Checks::rich, x -> x.go(0), 5);
        about("16: NONE, and none does: behind 9000");
        due("to 9000", at(8800).go(200), 9000);
        due("to 9000 by one", at(8999).go(1), 9000);
        Checks.stays("8801 and 200", () -> at(8801), x -> x.go(200), -1);
        Checks.stays("8999 and 2", () -> at(8999), x -> x.go(2), -1);
        Checks.stays("9000 and 1", () -> at(9000), x -> x.go(1), -1);
        Checks.stays("9000 and 200", () -> at(9000), x -> x.go(200), -1);
        Checks.stays("9000 and 0", () -> at(9000), x -> x.go(0), 9000);
        Checks.stays("9000 and -1", () -> at(9000), x -> x.go(-1), -1);
        about("16: one by one as in one call");
        GroupTrees one = of(Checks.RICH, 12);
        GroupTrees many = of(Checks.RICH);
        for (int i = 1; i <= 12; i++) {
            due("tick", many.go(1), i);
        }
        Checks.same("the same", Checks.shown(many), Checks.shown(one));
    }

    public static void main(String[] args) {
        noSuchOnes();
        ofNoNodes();
        distances();
        climbing();
        listeners();
        cutting();
        wanting();
        events();
        holding();
        suppressing();
        meeting();
        goingDown();
        asserting();
        losing();
        hearing();
        switching();
        values();
        names();
        sending();
        going();
        Checks.end();
    }
}
