/** Sentences that, broken in the class on trial, only random runs or nothing had seen: each told by hand. */
public final class SentencesTest {
    private static final String FOUR = "node a;node b;node c;node d;";
    // Both b and c lie between a and d; metric chooses.
    private static final String DIAMOND = FOUR + "link 1 a b c;link 1 b c d;";
    private static final String PAIR = "node a;node b;link 1 a b;source s a;";

    private static void about(String words) {
        Checks.about(words);
    }

    private static void due(String what, long got, long want) {
        Checks.due(what, got, want);
    }

    private static GroupTrees of(String text) {
        return Checks.of(text);
    }

    private static GroupTrees of(String text, int ticks) {
        return Checks.of(text, ticks);
    }

    private static void upByMetric() {
        about("2: UP in a TREE: E of metric in that TREE");
        GroupTrees x = of(DIAMOND + "source s a;law metric place * (1 - 2 * tree);");
        due("shared", x.up(0, 3, 1), 1);
        due("of s", x.up(1, 3, 1), 2);
        due("metric of c, shared", x.law(0, 0, 2), 2);
        due("metric of c, of s", x.law(0, 1, 2), -2);
        about("2: of these NODES on it: not of those whose FAR and the COST come to more");
        x = of(FOUR + "link 1 a b;link 2 a c;link 2 b c d;law metric 9 - place;");
        due("far of d", x.far(0, 3), 3);
        due("c's metric is least", x.law(0, 0, 2), 7);
        due("but b is up", x.up(0, 3, 1), 1);
        due("by its link", x.up(0, 3, 0), 2);
        about("20: by UP from it to ROOT, metric chooses all along");
        x = of(FOUR + "node e;node f;link 1 a b c;link 1 b c d;link 1 d e;link 1 e f;source s a;law metric 9 - place;");
        due("of d", x.way(0, 3), 13);
        due("of e", x.way(0, 4), 29);
        due("of f", x.way(1, 5), 61);
        about("2: a PACKET goes to the NODES whose UP in this TREE, by metric, that NODE is");
        x = of(DIAMOND + "meet d;source s a;join d 0;send s 2;law metric 9 - place;", 3);
        due("held by c", x.held(1, 2, 1), 4);
        due("not by b", x.held(1, 1, 1), 0);
        due("d has it by itself", x.count(9), 0);
        due("and heard it", Checks.node(x, 3, 2), 1);
    }

    private static void packets() {
        about("2: sends on each whole LINK: none on one that is CUT, so nobody loses an ASSERT there");
        String turning = FOUR + "link 1 a b;link 1 a c;link 1 b c d;source s a;join d 0;law metric 9 - place * tick;";
        GroupTrees x = of(turning, 3);
        due("b holds it yet", x.held(0, 1, 2), 2);
        due("c holds it too", x.held(0, 2, 2), 4);
        due("cut", x.cut(2), 1);
        due("nobody hears", x.send(0), 0);
        due("no assert", x.count(11), 0);
        due("whole", x.cut(2), 0);
        due("b sends, c is up from d", x.send(0), 0);
        due("c lost an assert", x.count(11), 1);
        about("2: whose UP in this TREE is that NODE by that LINK: not by another one");
        x = of("node a;node b;link 2 a b;link 1 a b;source s a;join b 0;");
        due("the cheaper one cut", x.cut(1), 1);
        due("tick", x.go(1), 1);
        due("held on the dearer one", x.held(0, 0, 0), 4);
        due("mended", x.cut(1), 0);
        due("up by the cheaper one", x.up(0, 1, 0), 1);
        due("sent on the dearer one", x.send(0), 0);
        due("missed", Checks.node(x, 1, 4), 1);
        due("cut again", x.cut(1), 1);
        due("up by the dearer one", x.send(0), 2);
        about("2: (4) SENDS of this TICK, by their numbers");
        String two = "node a;node b;link 1 a b;source s a;source t a;join b 0;law switch heard = 1;";
        due("s ahead", Checks.node(of(two + "send s 1;send t 1;", 2), 1, 1), 1);
        due("t ahead", Checks.node(of(two + "send t 1;send s 1;", 2), 1, 1), 2);
    }

    private static void switching() {
        about("2: each LISTENER that hasn't SWITCHED to s: who has isn't asked again");
        GroupTrees x = of(PAIR + "join b 0;law switch heard = 1;", 1);
        due("by the shared tree", x.send(0), 2);
        due("switched", Checks.node(x, 1, 1), 1);
        due("again by the shared tree", x.send(0), 2);
        due("switch would be 0 now", x.law(1, 1, 1), 0);
        due("has switched yet", Checks.node(x, 1, 1), 1);
        about("2: (1) a NODE LISTENS: one that does already has SWITCHED as it had");
        x = of(PAIR + "join b 0;send s 1;join b 2;", 2);
        due("switched", Checks.node(x, 1, 1), 1);
        due("tick", x.go(1), 3);
        due("has yet", Checks.node(x, 1, 1), 1);
        due("and wants that tree", x.wants(1, 1), 1);
    }

    private static void names() {
        about("2: held: on how many LINKS HELD of it in the TREE is above 0");
        GroupTrees x = of("node a;node b;node c;link 1 a b;link 1 a c;source s a;join b 0;join c 0;"
            + "law switch place = 1;law metric held;", 1);
        due("both hear", x.send(0), 6);
        due("tick", x.go(1), 2);
        due("shared: two", x.law(0, 0, 0), 2);
        due("of s: one", x.law(0, 1, 0), 1);
        about("2: heard, twice: how many it HEARD, TWICE: none that it MISSED");
        x = of(PAIR + "law metric heard;law keep twice;");
        due("b listens", x.listen(1), 1);
        due("nothing held", x.send(0), 0);
        due("missed", Checks.node(x, 1, 4), 1);
        due("heard", x.law(0, 0, 1), 0);
        due("a listens", x.listen(0), 1);
        due("starts there in both trees", x.send(0), 1);
        due("heard once", x.law(0, 0, 0), 1);
        due("which is twice", x.law(2, 0, 0), 1);
        due("tick", x.go(1), 1);
        due("by the shared tree alone, b", x.send(0), 3);
        due("heard by b", x.law(0, 0, 1), 1);
        due("twice by b", x.law(2, 0, 1), 0);
    }

    private static void asking() {
        about("19: finds HELD there above 0: on that LINK");
        GroupTrees x = of("node a;node b;node c;link 1 a b;link 1 a c;join b 0;", 1);
        due("settled", x.settled(), 0);
        due("c listens", x.listen(2), 1);
        due("a holds another link", x.settled(), 1);
        about("26, 27: FAR of both in that TREE");
        x = of(FOUR + "link 1 a b;link 1 b c;link 9 c d;source s d;");
        due("shared: 0 and 1", x.rests(0, 0, 1), 1);
        due("both assert", x.rest(0, 0, 1, 0), 0);
        due("of s: 11 and 10", x.rests(1, 0, 1), 3);
        due("first", x.rest(1, 0, 1, 0), 1);
        due("second", x.rest(1, 0, 1, 1), 10);
        due("third", x.rest(1, 0, 1, 2), 11);
        due("of s: 10 and 11", x.rests(1, 1, 0), 3);
        due("shared: 1 and 2", x.rest(0, 1, 2, 1), 1);
        due("shared: 2 and 1", x.rest(0, 2, 1, 1), 10);
        about("35: 1 nobody SWITCHES any more: who has, has");
        x = of("node a;node b;node c;link 1 b c;link 1 a b;source s b;join c 0;send s 2;cut 1 4;send s 20;", 5);
        due("c has switched", Checks.node(x, 2, 1), 1);
        due("hears by the tree of s alone", x.tried(1, 0, 30), 1);
        about("35: 4 all is HELD for 1 TICK by a JOIN, without a law of keep too");
        x = of("node a;node b;node c;link 1 a b;link 1 b c;source s a;join c 0;send s 5;");
        due("as it goes", x.ahead(10, 0), 1);
        due("b has forgotten it by its turn", x.tried(4, 0, 10), 0);
    }

    private static void whatStays() {
        about("36, 38: the TAPE and fault() are no part of what is undone or in the IMAGE");
        GroupTrees x = Checks.rich();
        due("undone", x.undo(), 2);
        due("behind twenty bytes", Checks.feed(x, "node t;", 0), 40);
        due("back", x.back(), 4);
        due("behind forty", Checks.feed(x, "node u;", 0), 60);
        due("the text is there", x.text(7), 1);
        x = Checks.rich();
        due("a fault", x.text(6), -1);
        due("at the end", x.fault(1), 6);
        due("undone", x.undo(), 2);
        due("its place", x.fault(1), 6);
        due("back", x.back(), 4);
        due("its number", x.fault(0), 1);
        due("its place yet", x.fault(1), 6);
    }

    private static void readme() {
        about("README: the example");
        GroupTrees x = new GroupTrees();
        due("lines", Checks.tell(x, "node a;node b;link 2 a b;source s a;join b 0;send s 1;"), 6);
        due("tick", x.go(2), 2);
        due("heard", Checks.node(x, 1, 2), 1);
        due("ahead", x.ahead(10, 0), 0);
    }

    public static void main(String[] args) {
        upByMetric();
        packets();
        switching();
        names();
        asking();
        whatStays();
        readme();
        Checks.end();
    }
}
