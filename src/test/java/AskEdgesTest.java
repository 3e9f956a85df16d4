import java.math.BigInteger;

/** The edges of promises 17 to 35: what is asked ahead, of trees, of odds, of NOTES, tried otherwise. */
public final class AskEdgesTest {
    private static final String SEVEN = "node a;node b;node c;node d;node e;node f;node g;";
    private static final String PAIR = "node a;node b;link 1 a b;source s a;";
    private static final String CHAIN = "node a;node b;node c;link 1 a b;link 1 b c;source s a;";
    private static final String SQUARE = "node a;node b;node c;node d;link 2 a b;link 3 b c d;link 4 a d;source s a;";

    private static void about(String words) {
        Checks.about(words);
    }

    private static void due(String what, long got, long want) {
        Checks.due(what, got, want);
    }

    private static GroupTrees of(String text) {
        return Checks.of(text);
    }

    private static GroupTrees of(String text, int ticks) {
        return Checks.of(text, ticks);
    }

    private static boolean within(int number, int below) {
        return number >= 0 && number < below;
    }

    private static void refusedOrNot(String what, long got, boolean there) {
        due(what, there ? Math.min(got, 0) : got, there ? 0 : -1);
    }

    /** Asking changes nothing, whatever is asked and refused; each call on an object of its own. */
    private static void asking() {
        about("17 to 35: what is asked leaves all as it was");
        int[] some = {Integer.MIN_VALUE, -1, 0, 2, 61, Integer.MAX_VALUE};
        for (int a : some) {
            for (int b : some) {
                Checks.stays("ahead", Checks::rich, x -> least(x.ahead(a, b)), within(a, 61) && within(b, 5) ? 0 : -1);
                Checks.stays("tried", Checks::rich, x -> least(x.tried(a, 0, b)), within(a, 5) && within(b, 61) ? 0 : -1);
                Checks.stays("least", Checks::rich, x -> least(x.least(a, b)), within(a, 2) && within(b, 2) ? 0 : -1);
                Checks.stays("holds", Checks::rich, x -> least(x.holds(a, b)), within(a, 7) && within(b, 2) ? 0 : -1);
                Checks.stays("ask", Checks::rich, x -> least(x.ask(a, b)), within(a, 4) && within(b, 3) ? 0 : -1);
                Checks.stays("way", Checks::rich, x -> least(x.way(a, b)), within(a, 3) && within(b, 4) ? 0 : -1);
                Checks.stays("rests", Checks::rich, x -> least(x.rests(0, a, b)), within(a, 4) && within(b, 4) && a != b ? 0 : -1);
                Checks.stays("rest", Checks::rich, x -> least(x.rest(0, a, 1, b)), within(a, 4) && b >= 0 ? 0 : -1);
                Checks.stays("chance", Checks::rich, x -> least(x.chance(a, 3, 0, b)), a >= 0 && within(b, 100) ? 0 : -1);
                Checks.stays("chance", Checks::rich, x -> least(x.chance(5, a, b, 1)), a == 2 && within(b, 4) ? 0 : -1);
            }
            Checks.stays("quiet", Checks::rich, x -> least(x.quiet(a)), within(a, 3) ? 0 : -1);
            Checks.stays("best", Checks::rich, x -> least(x.best(a)), within(a, 2) ? 0 : -1);
            Checks.stays("needed", Checks::rich, x -> least(x.needed(a)), within(a, 3) ? 0 : -1);
            Checks.stays("wide", Checks::rich, x -> least(x.wide(a)), within(a, 3) ? 0 : -1);
            Checks.stays("used", Checks::rich, x -> least(x.used(a)), within(a, 3) ? 0 : -1);
            Checks.stays("costs", Checks::rich, x -> least(x.costs(a)), within(a, 4) ? 0 : -1);
            Checks.stays("count", Checks::rich, x -> least(x.count(a)), within(a, 17) ? 0 : -1);
            Checks.stays("fault", Checks::rich, x -> x.fault(a), a == 0 ? 0 : -1);
            Checks.stays("node", Checks::rich, x -> Checks.node(x, a, 9), within(a, 4) ? Checks.NO_WHAT : Checks.NO_NODE);
        }
        Checks.stays("settled", Checks::rich, x -> least(x.settled()), 0);
    }

    /** 0 for all but NONE. */
    private static long least(long answer) {
        return answer == -1 ? -1 : 0;
    }

    private static void lookingAhead() {
        about("17: n 0 .. 60; NONE: no such ones");
        GroupTrees x = Checks.rich();
        for (int n : Checks.WILD) {
            for (int what : Checks.WILD) {
                refusedOrNot("ahead " + n + " " + what, x.ahead(n, what), within(n, 61) && within(what, 5));
            }
        }
        about("17: AHEAD for n TICKS");
        GroupTrees y = of(PAIR + "join a 0;send s 59;send s 99;");
        due("none", y.ahead(0, 0), 0);
        due("59 ticks: up to 58", y.ahead(59, 0), 0);
        due("60 ticks: 59 with", y.ahead(60, 0), 1);
        due("twice", y.ahead(60, 1), 1);
        y.go(40);
        due("up to 98", y.ahead(59, 0), 1);
        due("up to 99", y.ahead(60, 0), 2);
        y.go(60);
        due("nothing comes", y.ahead(60, 0), 0);
        about("17: more than now, as it goes: LOST, if loss is 50 at least");
        for (int loss : new int[] {0, 1, 49, 50, 51, 99, 100}) {
            String told = Checks.RICH.replace("loss 30;", "");
            GroupTrees ahead = of(told + "loss " + loss + ";");
            GroupTrees goes = of(told + "loss " + (loss < 50 ? 0 : 100) + ";");
            for (int n = 0; n <= 12; n++) {
                for (int what = 0; what < 5; what++) {
                    due("loss " + loss + ", n " + n + ", what " + what, ahead.ahead(n, what), goes.count(6 + what));
                }
                goes.go(1);
            }
        }
        GroupTrees late = of(Checks.RICH, 3);
        for (int what = 0; what < 5; what++) {
            due("of no ticks", late.ahead(0, what), 0);
        }
        GroupTrees much = Checks.rich();
        for (int what = 0; what < 5; what++) {
            Checks.holds("some are counted already, " + what, much.count(6 + what) > 0);
            due("of no ticks more, " + what, much.ahead(0, what), 0);
            due("tried, " + what, much.tried(what, 0, 0), 0);
        }
        about("17: behind 9000 too");
        GroupTrees end = of("node a;source s a;");
        for (int i = 0; i < 45; i++) {
            end.go(200);
        }
        due("at the end", end.go(1), -1);
        due("it looks on", end.ahead(60, 0), 0);
    }

    private static void quiet() {
        about("18: 0: now; NONE: no such TREE");
        for (int tree : Checks.WILD) {
            due("tree " + tree, of(Checks.RICH).quiet(tree), within(tree, 3) ? 0 : -1);
            due("of nothing " + tree, new GroupTrees().quiet(tree), tree == 0 ? 0 : -1);
        }
        about("18: in how many TICKS, 99 at most; -2: not by then");
        for (int keep : new int[] {1, 2, 98, 99}) {
            due("keep " + keep, of(PAIR + "join b 0;law keep " + keep + ";", 1).quiet(0), keep);
        }
        due("50 and 50: 99", of(CHAIN + "join c 0;law keep 50;", 2).quiet(0), 99);
        due("48 and 51: 98", of(CHAIN + "join c 0;law keep 48 + 3 * (place = 0);", 2).quiet(0), 98);
        due("49 and 51: 99", of(CHAIN + "join c 0;law keep 49 + 2 * (place = 0);", 2).quiet(0), 99);
        due("50 and 51: 100", of(CHAIN + "join c 0;law keep 50 + (place = 0);", 2).quiet(0), -2);
        due("51 and 51", of(CHAIN + "join c 0;law keep 51;", 2).quiet(0), -2);
        about("18: if all stop LISTENING now (JOINS go on), no EVENTS, no SENDS coming");
        due("2 and 2 by joins", of(CHAIN + "join c 0;hold 2;", 2).quiet(0), 3);
        due("a join that would come", of(CHAIN + "join c 0;join b 3;hold 2;", 2).quiet(0), 3);
        due("a cut that would come", of(CHAIN + "join c 0;cut 0 2;hold 2;", 2).quiet(0), 3);
        due("SWITCHED no more", of(PAIR + "join b 0;send s 0;hold 3;", 2).quiet(1), 3);
        due("that of s by the meeting node", of("node m;node b;node a;link 1 m b;link 1 m a;source s a;join b 0;hold 2;", 2).quiet(1), 3);
        due("each tree by itself", of(PAIR + "join b 0;hold 3;", 2).quiet(1), 0);
    }

    private static void settled() {
        about("19: 0: now");
        due("of nothing", new GroupTrees().settled(), 0);
        due("nobody wants", of(Checks.RICH).settled(), 0);
        due("events don't come", of(CHAIN + "join c 0;").settled(), 0);
        GroupTrees x = of(CHAIN);
        x.listen(2);
        due("two", x.settled(), 2);
        x.go(1);
        due("one", x.settled(), 1);
        x.go(1);
        due("now", x.settled(), 0);
        x.cut(1);
        due("no up: nothing to find for c", x.settled(), 0);
        about("19: 99 at most; -2: not by then");
        // UP of d goes to and fro between b, in even TICKS, and c until a TICK; from that on it is b.
        String fro = "node d;node b;node c;node a;link 1 a b;link 1 a c;link 1 b c d;meet a;hold 1;"
            + "law metric (place + tick) / 2 * 2 = place + tick and tick < ";
        int[][] ends = {{97, 97}, {98, 99}, {99, 99}, {100, -2}, {101, -2}, {9000, -2}};
        for (int[] end : ends) {
            GroupTrees y = of(fro + end[0] + ";");
            y.listen(0);
            due("until " + end[0], y.settled(), end[1]);
        }
        about("19: LISTENERS as now, no EVENTS, no SENDS coming");
        GroupTrees noCut = of(CHAIN + "cut 0 0;");
        noCut.listen(2);
        due("a cut that would come", noCut.settled(), 2);
        GroupTrees noSend = of(PAIR + "send s 0;");
        noSend.listen(1);
        due("a send that would come", noSend.settled(), 1);
        GroupTrees noJoin = of(CHAIN + "join c 0;");
        noJoin.listen(1);
        due("a join that would come", noJoin.settled(), 1);
        due("the same behind what was asked", noJoin.ahead(3, 0) + noJoin.settled(), 1);
        about("19: the LINKS as they are now");
        GroupTrees cut = of(CHAIN);
        due("far", cut.far(0, 2), 2);
        cut.listen(2);
        cut.cut(1);
        due("c has no up", cut.settled(), 0);
        cut.cut(1);
        due("it has", cut.settled(), 2);
        GroupTrees z = of(CHAIN + "leave c 1;cut 1 1;send s 1;");
        z.listen(2);
        due("it goes on listening", z.settled(), 2);
    }

    private static void ways() {
        about("20: WAY: it and ROOT with; -2: its FAR is 99; NONE: no such ones");
        GroupTrees x = of(SEVEN + "link 9 a b;link 9 b c;link 9 c d;link 9 d e;link 9 e f;link 9 f g;source s g;");
        for (int node = 0; node < 7; node++) {
            due("from a", x.way(0, node), (2 << node) - 1);
            due("from g", x.way(1, node), 127 & -(1 << node));
        }
        x.cut(3);
        due("cut off", x.way(0, 4), -2);
        due("the last there", x.way(0, 3), 15);
        due("the root of a part", x.way(1, 6), 64);
        for (int tree : Checks.WILD) {
            for (int node : Checks.WILD) {
                boolean there = within(tree, 2) && within(node, 7);
                due("way " + tree + " " + node, there ? least(x.way(tree, node)) : x.way(tree, node), there ? 0 : -1);
            }
        }
        about("20: by UP, as it is now");
        String fork = "node a;node b;node c;node d;link 1 a b;link 1 a c;link 1 b c d;law metric 9 - place * tick;";
        due("by b", of(fork).way(0, 3), 11);
        due("by c", of(fork, 1).way(0, 3), 13);
    }

    private static void best() {
        about("21: 0 of none; the first of several");
        GroupTrees x = of(SEVEN);
        due("node", x.best(0), 0);
        due("sum", x.best(1), 0);
        about("21: 99 as it is");
        x.listen(6);
        due("itself", x.best(0), 6);
        due("no way", x.best(1), 0);
        x.listen(3);
        due("the first of two", x.best(0), 3);
        due("99", x.best(1), 99);
        for (int node : new int[] {0, 1, 2, 4, 5}) {
            x.listen(node);
        }
        due("the first of all", x.best(0), 0);
        due("six times 99", x.best(1), 594);
        about("21: the least sum, whoever is the MEETING NODE");
        GroupTrees y = of(SQUARE + "meet c;");
        y.listen(2);
        y.listen(3);
        y.listen(0);
        // Sums from a, b, c, d: 5+4, 2+3+3, 5+3, 4+3.
        due("d", y.best(0), 3);
        due("its sum", y.best(1), 7);
        y.cut(2);
        // Without a - d: 5+5, 8, 5+3, 5+3.
        due("the first of b, c, d", y.best(0), 1);
        due("its sum", y.best(1), 8);
        about("21: -2 of both: there are no NODES; NONE for another what");
        for (int what : Checks.WILD) {
            due("no nodes, what " + what, new GroupTrees().best(what), within(what, 2) ? -2 : -1);
            refusedOrNot("what " + what, y.best(what), within(what, 2));
        }
    }

    private static void leastLinks() {
        about("22: of whole LINKS, of several the least; -2: they can't hang together");
        GroupTrees x = of("node a;node b;" + "link 2 a b;".repeat(8) + "source s a;");
        due("nobody", x.least(0, 0), 0);
        due("nothing", x.least(0, 1), 0);
        x.listen(0);
        due("its own node", x.least(0, 0), 0);
        x.listen(1);
        for (int link = 0; link < 8; link++) {
            due("link", x.least(0, 0), 1 << link);
            due("cost", x.least(0, 1), 2);
            x.cut(link);
        }
        due("none", x.least(0, 0), -2);
        due("no sum", x.least(0, 1), -2);
        x.listen(1);
        due("a alone", x.least(0, 0), 0);
        String four = "node a;node b;node c;node d;";
        GroupTrees one = of(four + "link 3 a b c d;link 1 a b;link 1 b c;link 1 c d;source s c;join a 0;join b 0;join d 0;", 1);
        due("one link as cheap as three", one.least(0, 0), 1);
        GroupTrees three = of(four + "link 1 a b;link 1 b c;link 1 c d;link 3 a b c d;source s c;join a 0;join b 0;join d 0;", 1);
        due("three, as bits less than one", three.least(0, 0), 7);
        due("three", three.least(0, 1), 3);
        three.listen(0);
        due("for b and d", three.least(0, 0), 6);
        three.listen(3);
        due("for b", three.least(0, 0), 2);
        GroupTrees all = of(SEVEN + "link 9 a b;link 9 b c;link 9 c d;link 9 d e;link 9 e f;link 9 f g;link 9 a g;link 9 b f;source s a;"
            + "join b 0;join c 0;join d 0;join e 0;join f 0;join g 0;", 1);
        due("six of eight", all.least(0, 1), 54);
        due("the first six", all.least(0, 0), 63);
        about("22: NONE: no such ones");
        GroupTrees y = Checks.rich();
        for (int source : Checks.WILD) {
            for (int what : Checks.WILD) {
                refusedOrNot("least " + source + " " + what, y.least(source, what), within(source, 2) && within(what, 2));
            }
        }
    }

    private static void needed() {
        about("23: LINKS, whole, without each of which a LISTENER whose FAR is less than 99 would have 99");
        GroupTrees x = of(SEVEN + "link 9 a b;link 9 b c;link 9 c d;link 9 d e;link 9 e f;link 9 f g;source s d;");
        due("nobody", x.needed(0), 0);
        x.listen(0);
        due("the root", x.needed(0), 0);
        due("a for the tree of s", x.needed(1), 7);
        x.listen(6);
        due("all", x.needed(0), 63);
        due("all for s", x.needed(1), 63);
        x.cut(2);
        due("g has 99", x.needed(0), 0);
        due("a has 99", x.needed(1), 56);
        GroupTrees y = of("node a;node b;node c;link 1 a b;link 9 a b;link 1 b c;join c 0;", 1);
        due("one of two isn't needed", y.needed(0), 4);
        y.cut(0);
        due("the other one is then", y.needed(0), 6);
        y.cut(0);
        y.cut(1);
        due("or this", y.needed(0), 5);
        due("from a, not from what is beside it", of("node a;node b;node c;link 1 a c;join c 0;", 1).needed(0), 1);
        due("from c of three", of("node a;node b;node c;node d;link 1 a c;meet c;join a 0;", 1).needed(0), 1);
        about("23: NONE: no such TREE");
        for (int tree : Checks.WILD) {
            refusedOrNot("needed " + tree, x.needed(tree), within(tree, 2));
            due("of nothing " + tree, new GroupTrees().needed(tree), tree == 0 ? 0 : -1);
            about("24: NONE: no such TREE");
            refusedOrNot("wide " + tree, x.wide(tree), within(tree, 2));
            due("of nothing " + tree, new GroupTrees().wide(tree), tree == 0 ? 0 : -1);
            about("25: NONE: no such TREE");
            refusedOrNot("used " + tree, x.used(tree), within(tree, 2));
            due("of nothing " + tree, new GroupTrees().used(tree), tree == 0 ? 0 : -1);
        }
        about("24: the most FAR (99 not counted)");
        due("of NODE 0", of(CHAIN + "meet c;").wide(0), 2);
        due("of the last NODE", of(CHAIN).wide(0), 2);
        due("of one between", of("node a;node b;node c;link 9 a b;link 1 a c;").wide(0), 9);
        x.cut(2);
        due("54", x.wide(0), 54);
        due("27", x.wide(1), 27);
        x.cut(5);
        due("45", x.wide(0), 45);
        for (int link = 0; link < 5; link++) {
            x.cut(link);
        }
        due("the root alone", x.wide(0), 0);
        about("25: LINKS on which a HELD of it is above 0");
        String eight = SEVEN + "link 1 a b;link 1 a c;link 1 a d;link 1 a e;link 1 a f;link 1 a g;link 1 a b;link 1 a c;source s a;hold 2;"
            + "join b 0;join c 0;join d 0;join e 0;join f 0;join g 0;";
        GroupTrees z = of(eight + "cut 0 1;cut 1 1;", 1);
        due("six", z.used(0), 63);
        due("none of s", z.used(1), 0);
        z.go(1);
        due("the old ones yet, and new ones", z.used(0), 255);
        z.go(1);
        due("held no more", z.used(0), 252);
        about("39: how many HELD");
        due("six", z.count(12), 6);
    }

    private static int gain(int far, int mine, int other) {
        if (mine == 0 && other == 0) {
            return far >= 9 ? 0 : (9 - far) / 2;
        }
        if (mine == 0) {
            return far >= 10 ? 0 : 10 - far;
        }
        return other == 0 ? 3 : 0;
    }

    private static void rests(GroupTrees x, int tree, int one, int other) {
        int count = 0;
        int a = x.far(tree, one);
        int b = x.far(tree, other);
        for (int mine = 0; mine < 2; mine++) {
            for (int his = 0; his < 2; his++) {
                if (gain(a, mine, his) >= gain(a, 1 - mine, his) && gain(b, his, mine) >= gain(b, 1 - his, mine)) {
                    due("rest of far " + a + " and " + b, x.rest(tree, one, other, count), 10 * mine + his);
                    count++;
                }
            }
        }
        due("rests of far " + a + " and " + b, x.rests(tree, one, other), count);
        due("no more", x.rest(tree, one, other, count), -2);
        due("none so high", x.rest(tree, one, other, Integer.MAX_VALUE), -2);
        due("below", x.rest(tree, one, other, -1), -1);
        due("far below", x.rest(tree, one, other, Integer.MIN_VALUE), -1);
    }

    private static void yielding() {
        about("26, 27: YIELD by what FAR is");
        for (int cost = 1; cost <= 9; cost++) {
            for (int more = 1; more <= 9; more += cost % 2 + 1) {
                GroupTrees x = of(SEVEN + "link " + cost + " a b;link " + more + " a c;link " + more + " b d;link 9 d e;link 9 e f;");
                for (int one = 0; one < 7; one++) {
                    for (int other = 0; other < 7; other++) {
                        if (one != other) {
                            rests(x, 0, one, other);
                        }
                    }
                }
            }
        }
        about("26: 9 less its FAR (0 at least), by 2, cut; 10 less its FAR (0 at least)");
        GroupTrees x = of(SEVEN + "link 1 a b;link 2 a c;link 4 a d;link 9 a e;link 9 a f;link 1 e g;");
        due("far 0 and 1: asserting is more than 3", x.rests(0, 0, 1), 1);
        due("far 2 has 3 by both", x.rests(0, 0, 2), 2);
        due("far 4 has 2 by both", x.rest(0, 2, 3, 0), 1);
        due("far 9 has 1 alone, so both don't yield", x.rests(0, 4, 5), 2);
        due("far 10 has nothing alone", x.rests(0, 4, 6), 2);
        due("neither of two at 99", of(SEVEN).rests(0, 5, 6), 3);
        about("26, 27: NONE: no such ones, NODES alike");
        GroupTrees y = Checks.rich();
        for (int one : Checks.WILD) {
            for (int other : Checks.WILD) {
                boolean there = within(one, 4) && within(other, 4) && one != other;
                refusedOrNot("rests " + one + " " + other, y.rests(2, one, other), there);
                refusedOrNot("rest " + one + " " + other, y.rest(2, one, other, 0), there);
            }
            refusedOrNot("tree " + one, y.rests(one, 0, 1), within(one, 3));
            refusedOrNot("tree of rest " + one, y.rest(one, 0, 1, 0), within(one, 3));
        }
    }

    private static void odds() {
        about("28: HOLDS (n 0 .. 6) in least terms");
        for (int loss = 0; loss <= 100; loss++) {
            GroupTrees x = of("loss " + loss + ";");
            for (int n = 0; n <= 6; n++) {
                BigInteger above = BigInteger.valueOf(100 - loss).pow(n);
                BigInteger below = BigInteger.valueOf(100).pow(n);
                BigInteger common = above.gcd(below);
                due("above, loss " + loss + ", n " + n, x.holds(n, 0), above.divide(common).longValueExact());
                due("below, loss " + loss + ", n " + n, x.holds(n, 1), below.divide(common).longValueExact());
            }
        }
        about("28: NONE: no such ones");
        GroupTrees y = of("loss 7;");
        for (int n : Checks.WILD) {
            for (int what : Checks.WILD) {
                refusedOrNot("holds " + n + " " + what, y.holds(n, what), within(n, 7) && within(what, 2));
            }
        }
    }

    private static GroupTrees full() {
        GroupTrees x = Checks.rich();
        for (int i = 3; i < 24; i++) {
            due("number", i % 2 == 0 ? x.strike(i - 1) : x.note(0, 1, i, i % 3 == 0), i);
        }
        return x;
    }

    private static void noting() {
        about("29: NONE: no such ones, NODES alike");
        for (int from : Checks.WILD) {
            for (int to : Checks.WILD) {
                boolean there = within(from, 4) && within(to, 4) && from != to;
                GroupTrees x = of(Checks.RICH);
                due("note " + from + " " + to, x.note(from, to, 5, true), there ? 0 : -1);
                due("how many", x.count(14), there ? 1 : 0);
            }
        }
        about("29: so much 0 .. 99");
        for (int far : Checks.WILD) {
            for (boolean atMost : new boolean[] {true, false}) {
                if (within(far, 100)) {
                    due("far " + far, Checks.rich().note(0, 1, far, atMost), 3);
                } else {
                    Checks.stays("far " + far, Checks::rich, x -> x.note(0, 1, far, atMost), -1);
                }
            }
        }
        Checks.stays("alike", Checks::rich, x -> x.note(2, 2, 5, true), -1);
        Checks.stays("no node", Checks::rich, x -> x.note(4, 2, 5, true), -1);
        Checks.stays("no other node", Checks::rich, x -> x.note(2, -1, 5, false), -1);
        about("29, 30: or there are 24 in all");
        due("24", full().count(14), 24);
        Checks.stays("a 25th note", AskEdgesTest::full, x -> x.note(0, 1, 5, true), -1);
        Checks.stays("a 25th, a strike", AskEdgesTest::full, x -> x.strike(0), -1);
        GroupTrees strikes = of(PAIR);
        strikes.note(0, 1, 5, true);
        for (int i = 1; i < 24; i++) {
            due("strike", strikes.strike(0), i);
        }
        due("none more", strikes.strike(0), -1);
        due("no note either", strikes.note(0, 1, 5, true), -1);
        about("30: NONE: no such NOTE or STRIKE");
        for (int note : Checks.WILD) {
            if (within(note, 3)) {
                due("strike " + note, Checks.rich().strike(note), 3);
            } else {
                Checks.stays("strike " + note, Checks::rich, x -> x.strike(note), -1);
            }
        }
        due("of none", of(PAIR).strike(0), -1);
        about("31: false: no such n");
        for (int n : Checks.WILD) {
            if (n >= -1 && n <= 3) {
                GroupTrees x = Checks.rich();
                Checks.holds("known " + n, x.known(n));
                due("by how many", x.count(15), n < 0 ? 3 : n);
            } else {
                Checks.stays("known " + n, Checks::rich, x -> x.known(n) ? 1 : 0, 0);
            }
        }
        Checks.holds("24 of 24", full().known(24));
        Checks.holds("not 25", !full().known(25));
    }

    private static void known() {
        about("31: KNOWN by n from now on (-1: by all, also those to come)");
        GroupTrees x = of(PAIR);
        x.note(0, 1, 5, true);
        due("all at first", x.costs(0), 31);
        x.note(0, 1, 3, true);
        due("those to come too", x.costs(0), 7);
        x.known(2);
        x.note(0, 1, 1, true);
        due("not by 2", x.costs(0), 7);
        x.known(-1);
        due("by all", x.costs(0), 1);
        x.known(0);
        due("by none", x.costs(0), 511);
        x.known(1);
        due("by one", x.costs(0), 31);
        due("one", x.count(15), 1);
        x.known(-1);
        x.note(0, 1, 0, true);
        due("all again", x.costs(0), 0);
        due("four", x.count(15), 4);
        about("3: a STRIKE may be STRUCK: then it doesn't count; asked from the last one on");
        GroupTrees y = of(PAIR);
        y.note(0, 1, 5, true);
        for (int i = 0; i < 23; i++) {
            due("strike of the last one", y.strike(i), i + 1);
            due("struck or not", y.costs(0), i % 2 == 0 ? 511 : 31);
        }
        for (int n = 0; n <= 24; n++) {
            y.known(n);
            due("by " + n, y.costs(0), n % 2 == 0 ? 511 : 31);
        }
        GroupTrees z = of(PAIR);
        z.note(0, 1, 5, true);
        z.strike(0);
        z.strike(0);
        z.strike(1);
        due("the other strike counts yet", z.costs(0), 511);
        z.strike(2);
        due("both are struck", z.costs(0), 31);
        z.known(4);
        due("one of them", z.costs(0), 511);
    }

    private static String square(int link, int cost) {
        String[] links = {"link 2 a b;", "link 3 b c d;", "link 4 a d;"};
        links[link] = "link " + cost + links[link].substring(6);
        return "node a;node b;node c;node d;node e;" + links[0] + links[1] + links[2];
    }

    private static int distance(int link, int cost, int from, int to) {
        String names = "abcde";
        return of(square(link, cost) + "meet " + names.charAt(from) + ";").far(0, to);
    }

    private static void costs() {
        about("32: COSTS: 1 .. 9 (bits 0 .. 8), at most so much or more");
        for (int far = 0; far <= 99; far++) {
            GroupTrees x = of(PAIR + "node c;");
            x.note(0, 1, far, true);
            due("at most " + far, x.costs(0), (1 << Math.min(far, 9)) - 1);
            GroupTrees y = of(PAIR + "node c;");
            y.note(1, 0, far, false);
            due("more than " + far, y.costs(0), 511 & -(1 << Math.min(far, 9)));
            GroupTrees z = of(PAIR + "node c;");
            z.note(0, 2, far, true);
            due("99 at most " + far, z.costs(0), far == 99 ? 511 : 0);
            GroupTrees w = of(PAIR + "node c;");
            w.note(2, 0, far, false);
            due("99 is more than " + far, w.costs(0), far == 99 ? 0 : 511);
        }
        about("32: by which all KNOWN ones are so");
        for (int link = 0; link < 3; link++) {
            for (int far = 0; far <= 12; far++) {
                GroupTrees x = of(square(link, 5));
                x.note(0, 2, far, true);
                x.note(3, 1, 2, false);
                int bits = 0;
                for (int cost = 1; cost <= 9; cost++) {
                    bits |= distance(link, cost, 0, 2) <= far && distance(link, cost, 3, 1) > 2 ? 1 << cost - 1 : 0;
                }
                due("link " + link + ", far " + far, x.costs(link), bits);
            }
        }
        about("3: all LINKS whole, whatever is CUT");
        GroupTrees y = of(PAIR + "cut 0 0;", 1);
        y.note(0, 1, 3, true);
        due("cut", y.costs(0), 7);
        about("32: NONE: no such LINK");
        GroupTrees z = Checks.rich();
        for (int link : Checks.WILD) {
            refusedOrNot("costs " + link, z.costs(link), within(link, 4));
        }
    }

    private static void questions() {
        about("33: as few of COSTS as may be are left at worst, of several the first");
        for (int link = 0; link < 3; link++) {
            int[][][] far = new int[10][5][5];
            for (int cost = 1; cost <= 9; cost++) {
                for (int one = 0; one < 5; one++) {
                    for (int other = 0; other < 5; other++) {
                        far[cost][one][other] = distance(link, cost, one, other);
                    }
                }
            }
            for (int most = 0; most <= 10; most += 2) {
                question(link, most, far);
            }
        }
        GroupTrees late = of("node a;node b;node c;node d;link 1 c d;");
        due("c", late.ask(0, 0), 2);
        due("d", late.ask(0, 1), 3);
        due("one", late.ask(0, 2), 1);
        for (int cost = 1; cost <= 9; cost++) {
            GroupTrees single = of(PAIR);
            single.note(0, 1, cost, true);
            single.note(0, 1, cost - 1, false);
            due("only " + cost, single.costs(0), 1 << cost - 1);
            due("it is left", single.ask(0, 2), 1);
        }
        due("nine, told apart by nothing", of("node a;node b;link 1 a b;link 1 a b;").ask(0, 2), 9);
        about("32, 33: COSTS of a later text");
        GroupTrees told = of(SEVEN + "link 1 a b;link 1 b c;link 1 c d;link 1 d e;link 1 e f;link 1 f g;");
        due("asked", told.ask(0, 2), 1);
        Checks.tell(told, "node a;node b;link 1 a b;link 1 a b;");
        due("nine", told.ask(0, 2), 9);
        due("a", told.ask(0, 0), 0);
        due("b", told.ask(0, 1), 1);
        told.note(0, 1, 0, false);
        due("all", told.costs(0), 511);
        Checks.tell(told, "node a;node b;link 1 a b;");
        told.note(0, 1, 4, true);
        due("four", told.costs(0), 15);
        about("33: none, if none fits");
        GroupTrees none = of(square(1, 3));
        none.note(0, 1, 99, false);
        due("left", none.ask(0, 2), 0);
        due("the first", none.ask(0, 0), 0);
        due("the second", none.ask(0, 1), 1);
        about("33: NONE: no such ones");
        GroupTrees y = Checks.rich();
        for (int link : Checks.WILD) {
            for (int what : Checks.WILD) {
                refusedOrNot("ask " + link + " " + what, y.ask(link, what), within(link, 4) && within(what, 3));
            }
            due("of one node " + link, of("node a;").ask(link, 0), -1);
        }
    }

    private static void question(int link, int most, int[][][] far) {
        GroupTrees x = of(square(link, 1));
        x.note(0, 3, most, true);
        int first = -1;
        int second = -1;
        int least = 10;
        for (int one = 0; one < 5; one++) {
            for (int other = one + 1; other < 5; other++) {
                int[] left = new int[100];
                int worst = 0;
                for (int cost = 1; cost <= 9; cost++) {
                    if (far[cost][0][3] <= most) {
                        left[far[cost][one][other]]++;
                        worst = Math.max(worst, left[far[cost][one][other]]);
                    }
                }
                if (worst < least) {
                    first = one;
                    second = other;
                    least = worst;
                }
            }
        }
        due("first, link " + link + ", at most " + most, x.ask(link, 0), first);
        due("second, link " + link + ", at most " + most, x.ask(link, 1), second);
        due("left, link " + link + ", at most " + most, x.ask(link, 2), least);
    }

    private static int[] enough(long seed, int loss, int sends) {
        BigInteger number = BigInteger.valueOf(seed);
        int[] enough = new int[sends + 1];
        for (int i = 0; i < 10; i++) {
            int heard = 0;
            for (int k = 0; k < sends; k++) {
                number = number.multiply(BigInteger.valueOf(1103515245)).add(BigInteger.valueOf(12345)).mod(BigInteger.TWO.pow(31));
                heard += number.shiftRight(16).intValueExact() % 100 < loss ? 0 : 1;
            }
            for (int k = 0; k <= heard; k++) {
                enough[k]++;
            }
        }
        return enough;
    }

    private static void chances() {
        String text = PAIR + "join b 0;law switch 0;hold 20;seed 3;" + "send s 39;".repeat(5);
        about("34: numbers from a seed 0 .. 2147483647 on, one behind another");
        for (int seed : new int[] {0, 1, 65535, 1 << 30, Integer.MAX_VALUE - 1, Integer.MAX_VALUE}) {
            for (int loss : new int[] {1, 40, 50, 99}) {
                GroupTrees x = of(text + "loss " + loss + ";");
                int[] enough = enough(seed, loss, 5);
                for (int heard = 0; heard <= 5; heard++) {
                    due("seed " + seed + ", loss " + loss + ", heard " + heard, x.chance(seed, 40, 1, heard), enough[heard]);
                }
                due("never six", x.chance(seed, 40, 1, 6), 0);
            }
        }
        for (int seed = 0; seed < 40; seed++) {
            due("one of a hundred, seed " + seed, of(text + "loss 99;").chance(seed, 40, 1, 1), enough(seed, 99, 5)[1]);
            due("99 of a hundred, seed " + seed, of(text + "loss 1;").chance(seed, 40, 1, 5), enough(seed, 1, 5)[5]);
        }
        about("34: n 1 .. 40 TICKS from now");
        GroupTrees y = of(text);
        due("39: up to 38", y.chance(1, 39, 1, 1), 0);
        due("40: 39 with", y.chance(1, 40, 1, 5), 10);
        due("no more than five", y.chance(1, 40, 1, 6), 0);
        due("1", y.chance(1, 1, 1, 0), 10);
        y.go(39);
        due("1 of the last", y.chance(1, 1, 1, 5), 10);
        about("34: HEARD so many 0 .. 99 at least in all then");
        y.go(1);
        due("heard already", y.chance(1, 1, 1, 5), 10);
        due("not six", y.chance(1, 1, 1, 6), 0);
        due("99", y.chance(1, 1, 1, 99), 0);
        GroupTrees many = of(PAIR + "join a 0;", 1);
        for (int i = 0; i < 98; i++) {
            many.send(0);
        }
        due("98 of 99", many.chance(1, 1, 0, 99), 0);
        due("98 of 98", many.chance(1, 1, 0, 98), 10);
        many.send(0);
        due("99 of 99", many.chance(1, 1, 0, 99), 10);
        about("34: loss 0 and 100");
        due("0", of(text + "loss 0;").chance(9, 40, 1, 5), 10);
        due("100", of(text + "loss 100;").chance(9, 40, 1, 1), 0);
        about("34: NONE: no such ones");
        GroupTrees x = Checks.rich();
        for (int one : Checks.WILD) {
            refusedOrNot("seed " + one, x.chance(one, 1, 0, 0), one >= 0);
            refusedOrNot("n " + one, x.chance(0, one, 0, 0), one >= 1 && one <= 40);
            refusedOrNot("n 41", x.chance(0, 41, 0, 0), false);
            refusedOrNot("node " + one, x.chance(0, 1, one, 0), within(one, 4));
            refusedOrNot("heard " + one, x.chance(0, 1, 0, one), within(one, 100));
            due("of no nodes", new GroupTrees().chance(0, 1, one, 0), -1);
        }
    }

    private static long ask(GroupTrees x, int which) {
        switch (which) {
            case 5: return x.ahead(9, 0);
            case 6: return x.quiet(0);
            case 7: return x.settled();
            case 8: return x.chance(3, 9, 2, 6);
            default: return x.tried(which, which == 2 ? 2 : 0, 9);
        }
    }

    /** HEARD by all in so many TICKS of a text. */
    private static int heard(String text, int n) {
        return of(text, n).count(6);
    }

    private static void trying() {
        String open = Checks.RICH.replace("loss 30;", "loss 0;");
        String lossy = Checks.RICH.replace("loss 30;", "loss 50;");
        String[] silent = {open.replace("join a 1;", ""), open.replace("join b 0;", ""),
            open.replace("join c 0;", "").replace("join c 8;", ""), open};
        for (int n : new int[] {0, 1, 2, 3, 4, 6, 7, 8, 9, 12, 59, 60}) {
            about("35: 0 nothing is LOST");
            due("n " + n, of(Checks.RICH).tried(0, 0, n), heard(open, n));
            due("of loss 50, n " + n, of(lossy).tried(0, 0, n), heard(open, n));
            about("35: 1 nobody SWITCHES any more");
            due("n " + n, of(Checks.RICH).tried(1, 0, n), heard(open.replace("heard > 1", "0"), n));
            due("of loss 50, n " + n, of(lossy).tried(1, 0, n), heard(open.replace("loss 0;", "loss 100;").replace("heard > 1", "0"), n));
            about("35: 2 NODE i LISTENS no more, whatever EVENTS");
            for (int i = 0; i < 4; i++) {
                due("node " + i + ", n " + n, of(Checks.RICH).tried(2, i, n), heard(silent[i], n));
            }
            about("35: 3 no LINK is CUT by EVENTS");
            due("n " + n, of(Checks.RICH).tried(3, 0, n), heard(open.replace("cut 2 2;", "").replace("cut 0 8;", ""), n));
            about("35: 4 all is HELD for 1 TICK by a JOIN");
            due("n " + n, of(Checks.RICH).tried(4, 0, n), heard(open.replace("law keep 4 - held;", "law keep 1;"), n));
        }
        about("35: each of them makes a difference here");
        for (int what = 0; what < 5; what++) {
            GroupTrees x = of(what == 0 ? lossy : Checks.RICH);
            Checks.holds("what " + what, x.tried(what, 0, 12) != x.ahead(12, 0));
        }
        about("35: 1: who SWITCHED already stays so");
        GroupTrees x = of("node m;node a;link 1 m a;meet m;source s a;join a 0;send s 1;send s 2;hold 9;", 2);
        due("switched", x.node(1, 1), 1);
        due("heard", x.tried(1, 0, 1), 1);
        about("35: 2: it LISTENS now");
        GroupTrees y = of(PAIR + "join b 0;join b 1;join b 2;send s 2;", 2);
        due("as it goes", y.ahead(1, 0), 1);
        due("no more", y.tried(2, 1, 1), 0);
        about("35: 2: it hasn't SWITCHED");
        GroupTrees sw = of("node m;node b;node c;link 1 m b;link 1 b c;source s m;join b 0;send s 0;hold 1;send s 3;join c 2;", 2);
        due("b switched", sw.node(1, 1), 1);
        due("c hears by b", sw.tried(2, 1, 2), sw.ahead(2, 0) - 1);
        about("35: 3: those CUT now are; a mend mends");
        String cutNow = PAIR + "join b 0;cut 0 0;cut 0 3;mend 0 2;send s 1;send s 2;send s 3;";
        due("no cut at all: three", of(cutNow).tried(3, 0, 4), 3);
        due("as it goes: one", of(cutNow).ahead(4, 0), 1);
        due("cut now, mended at 2: two", of(cutNow, 1).tried(3, 0, 3), 2);
        GroupTrees byCall = of(cutNow);
        byCall.cut(0);
        due("cut by call, mended at 2: two", byCall.tried(3, 0, 4), 2);
        about("17, 34, 35: what was asked ahead makes no difference");
        for (int what = 0; what < 9; what++) {
            for (int then = 0; then < 9; then++) {
                for (String text : new String[] {Checks.RICH, lossy}) {
                    GroupTrees one = of(text, 5);
                    GroupTrees other = of(text, 5);
                    ask(one, what);
                    due("asked " + what + ", then " + then, ask(one, then), ask(other, then));
                    due("sent", one.send(0), other.send(0));
                    ask(one, what);
                    due("gone", one.go(5), other.go(5));
                    Checks.same("asked " + what, Checks.shown(one), Checks.shown(other));
                }
            }
        }
        about("17, 35: as it goes, behind TICKS with numbers");
        GroupTrees sure = of(PAIR + "join b 0;law switch 0;loss 49;seed 3;" + "send s 1;".repeat(6) + "send s 3;".repeat(6), 2);
        due("ahead", sure.ahead(2, 0), 6);
        for (int what = 0; what < 5; what++) {
            due("tried " + what, sure.tried(what, 0, 2), 6);
        }
        about("35: NONE: no such ones (i 0 of all but 2)");
        GroupTrees z = Checks.rich();
        for (int what : Checks.WILD) {
            for (int i : Checks.WILD) {
                boolean there = within(what, 5) && (what == 2 ? within(i, 4) : i == 0);
                refusedOrNot("tried " + what + " " + i, z.tried(what, i, 9), there);
            }
            for (int n : Checks.WILD) {
                refusedOrNot("tried " + what + " for " + n, z.tried(what, 0, n), within(what, 5) && within(n, 61));
                due("node 0 of none", new GroupTrees().tried(2, 0, n), -1);
                refusedOrNot("of nothing", new GroupTrees().tried(what, 0, n), within(what, 5) && what != 2 && within(n, 61));
            }
        }
    }

    public static void main(String[] args) {
        asking();
        lookingAhead();
        quiet();
        settled();
        ways();
        best();
        leastLinks();
        needed();
        yielding();
        odds();
        noting();
        known();
        costs();
        questions();
        chances();
        trying();
        Checks.end();
    }
}
