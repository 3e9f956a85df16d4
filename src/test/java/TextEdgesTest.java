/** The edges of promises 1 to 5: the TAPE, the TEXT, its FAULTS, names. */
public final class TextEdgesTest {
    private static final String ABC = "node a;node b;node c;link 1 a b;source s a;";
    private static final String SEVEN = "node a;node b;node c;node d;node e;node f;node g;";
    private static final String[] LANGUAGE = {"node", "link", "meet", "source", "join", "leave", "cut", "mend", "send",
        "hold", "loss", "seed", "law", "metric", "switch", "keep", "or", "and", "not", "far", "place", "heard", "twice",
        "held", "tree", "tick"};

    private static void about(String words) {
        Checks.about(words);
    }

    private static void due(String what, long got, long want) {
        Checks.due(what, got, want);
    }

    /** The text is taken, with so many LINES. */
    private static void taken(String text, int lines) {
        GroupTrees x = new GroupTrees();
        due("text of " + text, Checks.tell(x, text), lines);
        due("fault of " + text, x.fault(0), 0);
        due("its place in " + text, x.fault(1), -1);
    }

    /** The text is refused, and what was told ahead of it stays. */
    private static void refused(String text, int fault, int place) {
        GroupTrees x = Checks.of("node q;node r;");
        due("text of " + text, Checks.tell(x, text), -1);
        due("fault of " + text, x.fault(0), fault);
        due("its place in " + text, x.fault(1), place);
        due("the text ahead stays", x.count(0), 2);
    }

    private static void newObject() {
        about("1: a TEXT without LINES");
        GroupTrees x = new GroupTrees();
        for (int what = 0; what <= 16; what++) {
            due("count " + what, x.count(what), what == 13 ? -2 : 0);
        }
        due("no node", Checks.node(x, 0, 0), Checks.NO_NODE);
        due("no link", x.link(0, 0), -1);
        due("the shared tree", x.used(0), 0);
        due("no tree of a source", x.used(1), -1);
        due("no name", x.named(0, 0), -1);
        due("nothing to undo", x.undo(), -1);
        due("no image", x.back(), -1);
        due("no strike", x.strike(0), -1);
        due("known by none", x.known(0) ? 1 : 0, 1);
        due("not by one", x.known(1) ? 1 : 0, 0);
        due("ticks go by all the same", x.go(200), 200);
        due("no loss", x.holds(6, 0), 1);
        due("none at all", x.holds(6, 1), 1);
        about("1: an empty TAPE");
        due("not one byte", new GroupTrees().text(1), -2);
        due("none is there", new GroupTrees().text(0), 0);
        due("twenty come", Checks.feed(new GroupTrees(), "", 0), 20);
    }

    private static GroupTrees filled() {
        GroupTrees x = Checks.rich();
        for (int i = 0; i < 34; i++) {
            Checks.feed(x, "", 0);
        }
        return x;
    }

    private static void feeding() {
        about("2: four of each number, the highest first");
        GroupTrees x = new GroupTrees();
        due("twenty", x.feed(0x6e6f6465, 0x20616263, 0x6465663b, 0x6e6f6465, 0x2062633b), 20);
        due("two lines", x.text(20), 2);
        due("abcdef", x.named(0, Checks.code("abcdef")), 0);
        due("bc", x.named(0, Checks.code("bc")), 1);
        about("2: come behind the TAPE");
        GroupTrees y = new GroupTrees();
        Checks.feed(y, "node abc", 0);
        due("forty", Checks.feed(y, ";node de;", 0), 40);
        due("blanks between", y.text(29), 2);
        about("2: NONE, and none come, if it would have more than 700");
        String full = Checks.RICH + " ".repeat(693 - Checks.RICH.length()) + "node e;";
        GroupTrees z = new GroupTrees();
        for (int i = 0; i < 35; i++) {
            due("feed " + i, Checks.feed(z, full, 20 * i), 20 * i + 20);
        }
        for (int i = 0; i < 3; i++) {
            due("full", z.feed(0x3b3b3b3b, 0x3b3b3b3b, 0x3b3b3b3b, 0x3b3b3b3b, 0x3b3b3b3b), -1);
        }
        due("701", z.text(701), -2);
        due("700 as they were", z.text(700), Checks.RICH_LINES + 1);
        due("the last line is there", z.count(0), 5);
        due("empty then", z.feed(0, 0, 0, 0, 0), 20);
        Checks.stays("a full tape", TextEdgesTest::filled, one -> Checks.feed(one, "node z;", 0), -1);
        GroupTrees kept = filled();
        kept.feed(0, 0, 0, 0, 0);
        due("its bytes stay", kept.text(700), 2);
        due("node q", kept.named(0, Checks.code("q")), 0);
        about("2: a byte may be above 127");
        GroupTrees w = new GroupTrees();
        w.feed(0x20202020, 0x2020ff20, 0, 0, 0);
        due("none of the tokens", w.text(20), -1);
        due("fault 1", w.fault(0), 1);
        due("there", w.fault(1), 6);
    }

    private static void telling() {
        about("3: the TAPE's first n bytes");
        GroupTrees x = new GroupTrees();
        Checks.put(x, "node a;node b;node c;");
        due("fourteen of forty", x.text(14), 2);
        due("two nodes", x.count(0), 2);
        about("3: it is empty then");
        due("the rest isn't there", x.text(1), -2);
        Checks.put(x, "node a;");
        due("none of twenty is a text", x.text(0), 0);
        due("without nodes", x.count(0), 0);
        due("and the tape is empty", x.text(1), -2);
        Checks.put(x, "nodes;");
        due("a fault", x.text(6), -1);
        due("and it is empty then", x.text(1), -2);
        due("twenty", Checks.feed(x, "", 0), 20);
        about("3: all of the TAPE");
        due("twenty blanks", x.text(20), 0);
        about("3: TICK 0, all LINKS whole, nobody LISTENS, SWITCHED, nothing HELD, HEARD, no NOTES, all KNOWN, no IMAGE, nothing to undo");
        for (int way = 0; way < Checks.PROBES; way++) {
            GroupTrees y = Checks.rich();
            y.text(20);
            due("lines", Checks.tell(y, Checks.RICH), Checks.RICH_LINES);
            Checks.same("as new (" + way + ")", Checks.probe(y, way), Checks.probe(Checks.of(Checks.RICH), way));
        }
        GroupTrees z = Checks.rich();
        due("at once", z.text(7), 1);
        Checks.same("as new", Checks.shown(z), Checks.shown(Checks.of("node q;")));
        due("no image", z.back(), -1);
        due("nothing to undo", z.undo(), -1);
        due("no note", z.strike(0), -1);
    }

    /** Of an object that was told much ahead, and asked, nothing is left in a later text. */
    private static void laterTexts() {
        about("3: the TEXT is what was told last, whatever was told ahead");
        String all = "node a;node b;node c;node d;node e;node f;node g;link 9 a g;link 1 g b;link 1 a b;link 2 c d;"
            + "meet g;source s g;source t a;source u c;join b 0;join a 0;cut 1 1;leave b 2;send t 0;send s 1;send t 2;"
            + "hold 17;loss 77;seed 99;law metric 0-place;law switch 0;law keep 1+place;";
        String[] later = {"node a;node b;node c;link 3 b c;link 1 c a;link 3 a b;source s a;join b 0;join c 1;send s 0;send s 3;",
            "node b;node a;link 1 a b;link 1 a b;source s a;join b 0;send s 1;loss 50;law switch 1;", "node a;", "",
            "node x;node y;link 4 x y;source v x;join x 3;mend 0 0;hold 2;law keep not tick;"};
        for (String text : later) {
            for (String between : new String[] {"", "node a;", "node a;node", "law keep 1+(2*", all}) {
                for (int way = 0; way < Checks.PROBES; way++) {
                    GroupTrees x = Checks.of(all);
                    Checks.shown(x);
                    x.go(2);
                    Checks.shown(x);
                    x.keep();
                    Checks.tell(x, between);
                    Checks.shown(x);
                    Checks.tell(x, text);
                    Checks.same("as new (" + way + ")", Checks.probe(x, way), Checks.probe(Checks.of(text), way));
                }
            }
        }
        about("5: names of earlier texts are gone");
        for (String between : new String[] {"node z;source z z;", "", "node z"}) {
            GroupTrees x = Checks.of("node a;node b;node c;source s a;source t a;source u a;");
            Checks.tell(x, between);
            Checks.tell(x, "node d;source v d;");
            for (String name : new String[] {"a", "b", "c", "z", "s", "t", "u"}) {
                due("node " + name, x.named(0, Checks.code(name)), -1);
                due("source " + name, x.named(1, Checks.code(name)), -1);
            }
            due("meet b", Checks.tell(x, "node d;meet b;"), -1);
            due("isn't told", x.fault(0), 4);
            due("node b", Checks.tell(x, "node d;node b;source t b;"), 3);
        }
        about("Terms: a law behind one that had a FAULT");
        GroupTrees y = new GroupTrees();
        for (String broken : new String[] {"law keep 1 + (2 *", "law keep not not (", "law keep 1 < 2 +", "law keep 1 or 2 and x;"}) {
            Checks.tell(y, broken);
            due("after " + broken, Checks.tell(y, "node a;law keep not 7 < 8;law metric 1 - 2;law switch 3 = 3;"), 4);
            due("keep", y.law(2, 0, 0), 0);
            due("metric", y.law(0, 0, 0), -1);
            due("knots", y.count(3), 10);
        }
    }

    private static void refusedTexts() {
        about("3: -2, and the TAPE stays: there are not so many");
        for (int n : new int[] {21, 22, 40, 700, 701, Integer.MAX_VALUE}) {
            Checks.stays("text(" + n + ")", Checks::rich, x -> x.text(n), -2);
        }
        about("3: -2, and the TAPE stays: n is below 0");
        for (int n : new int[] {-1, -2, -20, Integer.MIN_VALUE}) {
            Checks.stays("text(" + n + ")", Checks::rich, x -> x.text(n), -2);
        }
        about("3: NONE with a FAULT, all stays");
        for (int way = 0; way < Checks.PROBES; way++) {
            GroupTrees x = Checks.rich();
            due("a fault", x.text(13), -1);
            due("1", x.fault(0), 1);
            due("the length", x.fault(1), 13);
            GroupTrees y = Checks.rich();
            // The twin's TAPE is emptied by a text of the same FAULT, told in another way.
            due("another fault", y.text(6), -1);
            String one = Checks.probe(x, way).replaceFirst("fault\\(1\\)=13", "fault(1)=6");
            Checks.same("all stays (" + way + ")", one, Checks.probe(y, way));
        }
        String before = Checks.shown(Checks.rich());
        GroupTrees z = Checks.rich();
        z.text(13);
        Checks.same("but for the fault", Checks.shown(z).replaceAll("fault\\(.\\)=\\S+", ""), before.replaceAll("fault\\(.\\)=\\S+", ""));
    }

    private static void faultCall() {
        about("4: of the latest text(), its FAULT (0), its place (NONE without)");
        GroupTrees x = new GroupTrees();
        due("no text yet", x.fault(0), 0);
        due("nowhere", x.fault(1), -1);
        Checks.tell(x, "meet a;");
        due("4", x.fault(0), 4);
        due("at 5", x.fault(1), 5);
        Checks.tell(x, "node a;#");
        due("the latest", x.fault(0), 1);
        due("its place", x.fault(1), 7);
        about("4: that was not -2");
        x.text(1);
        x.text(-1);
        due("stays", x.fault(0), 1);
        due("stays there", x.fault(1), 7);
        due("a sound one", x.text(0), 0);
        due("0", x.fault(0), 0);
        due("NONE", x.fault(1), -1);
        x.text(1);
        due("0 stays", x.fault(0), 0);
        due("NONE stays", x.fault(1), -1);
        about("4: NONE for another what");
        Checks.tell(x, "node");
        for (int what : Checks.WILD) {
            due("what " + what, x.fault(what), what == 0 ? 1 : what == 1 ? 4 : -1);
        }
    }

    private static void naming() {
        about("5: by its letters, 5 bits each, the first one highest of six");
        GroupTrees x = Checks.of("node a;node z;node zzzzzz;node az;source az z;source b a;");
        due("a", x.named(0, 1 << 25), 0);
        due("z", x.named(0, 26 << 25), 1);
        due("zzzzzz", x.named(0, 26 << 25 | 26 << 20 | 26 << 15 | 26 << 10 | 26 << 5 | 26), 2);
        due("az", x.named(0, 1 << 25 | 26 << 20), 3);
        due("az, a source", x.named(1, 1 << 25 | 26 << 20), 0);
        due("b, a source", x.named(1, 2 << 25), 1);
        about("5: NONE: there is none such");
        due("b, no node", x.named(0, 2 << 25), -1);
        due("z, no source", x.named(1, 26 << 25), -1);
        due("a in the lowest place", x.named(0, 1), -1);
        due("0 between", x.named(0, 1 << 25 | 26 << 15), -1);
        due("a seventh bit", x.named(0, 1 << 25 | 1 << 30), -1);
        due("below 0", x.named(0, 1 << 25 | 1 << 31), -1);
        for (int letters : Checks.WILD) {
            due("letters " + letters, x.named(0, letters), -1);
            due("of a source " + letters, x.named(1, letters), -1);
        }
        for (int what : Checks.WILD) {
            due("what " + what, x.named(what, 1 << 25 | 26 << 20), what == 0 ? 3 : what == 1 ? 0 : -1);
        }
        Checks.tell(x, "node b;node");
        due("a fault leaves names", x.named(0, 1 << 25), 0);
        due("and brings none", x.named(0, 2 << 25), -1);
        Checks.tell(x, "node b;");
        due("old names are gone", x.named(0, 1 << 25), -1);
        due("those of sources too", x.named(1, 2 << 25), -1);
    }

    private static void signsOfTheText() {
        about("Terms: Blanks 10, 32; a TOKEN that is none");
        for (int b = 0; b < 256; b++) {
            String sign = String.valueOf((char) b);
            if (b == 10 || b == 32) {
                taken(sign, 0);
                taken("node" + sign + "a" + sign + ";" + sign, 1);
            } else {
                refused(sign, 1, 0);
                refused("node a;" + sign, 1, 7);
                due("a " + b + " behind a name", nameWith(b), b >= 'a' && b <= 'z' ? 1 : b == ';' ? 1 : -1);
            }
        }
        about("Terms: E's signs");
        for (int b = 0; b < 256; b++) {
            char sign = (char) b;
            boolean fits = "+-*/<=>".indexOf(sign) >= 0 || b >= '0' && b <= '9';
            String text = "law keep 1" + sign + "2;";
            if (fits) {
                taken(text, 1);
            } else {
                refused(text, 1, b == ' ' || b == '\n' || b == ';' ? 11 : 10);
            }
        }
    }

    private static int nameWith(int b) {
        GroupTrees x = new GroupTrees();
        return Checks.tell(x, "node a" + (char) b + (b == ';' ? "" : ";"));
    }

    private static void words() {
        about("Terms: W: one of 1 .. 6 letters");
        for (int letters = 1; letters <= 6; letters++) {
            taken("node " + "q".repeat(letters) + ";", 1);
        }
        for (int letters = 7; letters <= 40; letters++) {
            refused("node " + "q".repeat(letters) + ";", 1, 5);
        }
        refused("q".repeat(700), 1, 0);
        refused("nodesss a;", 1, 0);
        refused("sourcee s a;", 1, 0);
        refused("law metricc 1;", 1, 4);
        refused(ABC + "link 1 a abcdefg;", 1, 52);
        refused(ABC + "source abcdefg a;", 1, 50);
        refused("law keep placeee;", 1, 9);
        about("Terms: W: none of those of the language");
        for (String word : LANGUAGE) {
            refused("node " + word + ";", 1, 5);
            refused("node a;source " + word + " a;", 1, 14);
            refused("meet " + word + ";", 1, 5);
            String more = word.length() < 6 ? word + "x" : word.substring(0, 5);
            taken("node " + more + ";source " + more + " " + more + ";", 2);
            String less = word.substring(0, word.length() - 1);
            taken("node " + less + ";", 1);
        }
        about("Terms: letters in a row, digits in a row");
        taken("node ab;node c;link3ab c;cut0 5;", 4);
        refused("node a b;", 1, 7);
        refused("no de a;", 1, 0);
        refused("node a;node b;link 1a b c;", 4, 24);
        refused("hold 1 2;", 1, 7);
        taken("hold 12;", 1);
    }

    private static void numbers() {
        about("Terms: LINKS: a COST 1 .. 9");
        for (int cost = 1; cost <= 9; cost++) {
            GroupTrees x = Checks.of("node a;node b;link " + cost + " a b;");
            due("cost", x.link(0, 0), cost);
        }
        edges("node a;node b;link ", " a b;", 1, 9);
        about("Terms: EVENTS: a TICK 0 .. 99");
        for (String line : new String[] {"join a ", "leave a ", "cut 0 ", "mend 0 "}) {
            edges(ABC + line, ";", 0, 99);
        }
        about("Terms: SENDS: a SOURCE in a TICK 0 .. 99");
        edges(ABC + "send s ", ";", 0, 99);
        about("Terms: hold: 1 .. 20");
        edges("hold ", ";", 1, 20);
        about("Terms: loss: of a hundred 0 .. 100");
        edges("loss ", ";", 0, 100);
        about("Terms: seed: 0 .. 99999");
        edges("seed ", ";", 0, 99999);
        about("Terms: N of E 0 .. 9999");
        edges("law keep ", ";", 0, 9999);
        edges("law metric 1 + ", " * 2;", 0, 9999);
        edges("law switch (", ");", 0, 9999);
        about("Terms: a LINK by its number, above 7 it is too much");
        String eight = "node a;node b;" + "link 1 a b;".repeat(8);
        edges(eight + "cut ", " 0;", 0, 7);
        edges(eight + "mend ", " 0;", 0, 7);
        for (int link = 0; link < 12; link++) {
            int fault = link < 1 ? 0 : link < 8 ? 4 : 2;
            for (String word : new String[] {"cut ", "mend "}) {
                String text = ABC + word + link + " 3;";
                if (fault == 0) {
                    taken(text, 6);
                } else {
                    refused(text, fault, ABC.length() + word.length());
                }
            }
        }
        refused("mend 0 1;", 4, 5);
        refused("mend 8 1;", 2, 5);
    }

    /** A number between these is taken, with blanks and zeros ahead too; beyond them it is fault 2 at it. */
    private static void edges(String ahead, String behind, long least, long most) {
        int lines = 0;
        for (char c : (ahead + behind).toCharArray()) {
            lines += c == ';' ? 1 : 0;
        }
        taken(ahead + least + behind, lines);
        taken(ahead + most + behind, lines);
        taken(ahead + "000000000000" + most + behind, lines);
        refused(ahead + (most + 1) + behind, 2, ahead.length());
        refused(ahead + "0000000" + (most + 1) + behind, 2, ahead.length());
        if (least > 0) {
            refused(ahead + (least - 1) + behind, 2, ahead.length());
            refused(ahead + "000" + behind, 2, ahead.length());
        }
        // What would come back into the bounds, if the number were kept in 31, 32 or 64 bits.
        for (String wrap : new String[] {"1000000", "2147483648", "2147483649", "4294967296", "4294967297",
            "18446744073709551616", "18446744073709551617", "99999999999999999999999999"}) {
            refused(ahead + wrap + behind, 2, ahead.length());
        }
        refused(ahead + "1" + "0".repeat(300) + behind, 2, ahead.length());
    }

    private static void kept() {
        about("Terms: hold (4), loss (0), seed (0) without");
        GroupTrees x = Checks.of("node a;node b;link 1 a b;join b 0;", 1);
        due("hold", x.held(0, 0, 0), 4);
        due("loss", x.holds(6, 0), 1);
        due("hold 1", Checks.of("node a;node b;link 1 a b;join b 0;hold 1;", 1).held(0, 0, 0), 1);
        due("hold 20", Checks.of("node a;node b;link 1 a b;join b 0;hold 20;", 1).held(0, 0, 0), 20);
        due("loss 100", Checks.of("loss 100;").holds(6, 0), 0);
        due("loss 99", Checks.of("loss 99;").holds(6, 0), 1);
        String sends = "node a;node b;link 1 a b;source s a;join b 0;law switch 0;hold 20;loss 40;" + "send s 1;".repeat(14);
        Checks.same("seed 0", Checks.shown(Checks.of(sends, 2)), Checks.shown(Checks.of(sends + "seed 0;", 2)));
        Checks.holds("another seed", !Checks.shown(Checks.of(sends, 2)).equals(Checks.shown(Checks.of(sends + "seed 99999;", 2))));
        about("Terms: meet: once; without: NODE 0");
        due("without", Checks.of("node a;node b;").count(13), 0);
        due("with", Checks.of("node a;node b;meet b;").count(13), 1);
        due("of no nodes", Checks.of("hold 1;").count(13), -2);
        about("Terms: all numbered as they come");
        GroupTrees y = Checks.of("node b;node a;source z a;link 2 b a;source y b;link 3 a b;");
        due("b", y.named(0, Checks.code("b")), 0);
        due("a", y.named(0, Checks.code("a")), 1);
        due("z", y.named(1, Checks.code("z")), 0);
        due("y", y.named(1, Checks.code("y")), 1);
        due("link 0", y.link(0, 0), 2);
        due("link 1", y.link(1, 0), 3);
        due("tree of z", y.far(1, 1), 0);
        due("tree of y", y.far(2, 0), 0);
    }

    private static void tooMany() {
        about("Terms: NODES, at most 7");
        taken(SEVEN, 7);
        due("seven", Checks.of(SEVEN).count(0), 7);
        refused(SEVEN + "node h;", 2, 49);
        refused(SEVEN + "node a;", 2, 49);
        refused(SEVEN + "\n node", 2, 51);
        about("Terms: LINKS, at most 8");
        String two = "node a;node b;";
        taken(two + "link 1 a b;".repeat(8), 10);
        refused(two + "link 1 a b;".repeat(8) + "link 1 a b;", 2, 102);
        refused(two + "link 1 a b;".repeat(8) + "link 0 c c;", 2, 102);
        about("Terms: 2 .. 4 NODES on it");
        refused(SEVEN + "link 1;", 1, 55);
        refused(SEVEN + "link 1 a;", 1, 57);
        taken(SEVEN + "link 1 a g;", 8);
        taken(SEVEN + "link 1 a g c;", 8);
        taken(SEVEN + "link 1 a g c b;", 8);
        due("as bits", Checks.of(SEVEN + "link 1 a g c b;").link(0, 1), 71);
        refused(SEVEN + "link 1 a g c b d;", 2, 64);
        about("Terms: SOURCES, at most 3");
        String sources = "node a;source p a;source q a;source r a;";
        taken(sources, 4);
        due("three", Checks.of(sources).count(2), 3);
        refused(sources + "source t a;", 2, 40);
        refused(sources + "source p a;", 2, 40);
        about("Terms: EVENTS (join, leave, cut, mend), at most 16");
        String[] events = {"join a 1;", "leave a 1;", "cut 0 1;", "mend 0 1;"};
        for (int first = 0; first < 4; first++) {
            StringBuilder text = new StringBuilder(ABC);
            for (int i = 0; i < 16; i++) {
                text.append(events[(first + i / 4) % 4]);
            }
            taken(text.toString(), 21);
            for (String more : events) {
                refused(text + more, 2, text.length());
            }
            taken(ABC + events[first].repeat(16), 21);
            refused(ABC + events[first].repeat(17), 2, ABC.length() + 16 * events[first].length());
            about("Terms: SENDS, at most 14, are no EVENTS");
            taken(text + "send s 0;".repeat(14), 35);
            refused(text + "send s 0;".repeat(15), 2, text.length() + 14 * 9);
        }
    }

    private static void brackets() {
        about("Terms: a ninth '(' open");
        for (int open = 0; open <= 8; open++) {
            taken("law keep " + "(".repeat(open) + "1" + ")".repeat(open) + ";", 1);
        }
        refused("law keep " + "(".repeat(9) + "1" + ")".repeat(9) + ";", 2, 17);
        refused("law keep " + "(".repeat(30), 2, 17);
        taken("law keep ((((((((1)+(1))))))));", 1);
        taken("law keep ((((((((1))))))))+((((((((1))))))));", 1);
        refused("law keep ((((((((1)+((1", 2, 21);
        refused("law keep (1+(1+(1+(1+(1+(1+(1+(1+(1;", 2, 33);
        taken("law keep (1);law metric ((((((((1))))))));", 2);
        about("Terms: a ninth '(' that can't stand there, of one place the least");
        refused("law keep ((((((((1(", 1, 18);
        refused("law keep ((((((((1)(", 1, 19);
    }

    private static void knots() {
        about("Terms: a 65th KNOT of all E (N, NAMES, signs, not, and, or: one each)");
        String many = "1+".repeat(31);
        taken("law keep " + many + "1;law metric 1;", 2);
        due("64", Checks.of("law keep " + many + "1;law metric 1;").count(3), 64);
        due("brackets are none", Checks.of("law keep (((1)+(far)));").count(3), 3);
        due("each sign is one", Checks.of("law keep 1+2-3*4/5;").count(3), 9);
        due("two bytes, one sign", Checks.of("law keep 1<=2;law metric 1<>2;law switch 1>=2;").count(3), 9);
        due("words", Checks.of("law keep not far and place or tick;").count(3), 6);
        String[] laws = {"law keep ", "law metric ", "law switch "};
        String ahead = laws[0] + many + "1;";
        refused(ahead + laws[1] + "1+1;", 2, ahead.length() + 12);
        refused(ahead + laws[1] + "1;" + laws[2] + "1;", 2, ahead.length() + 24);
        refused(ahead + laws[1] + "1;" + laws[2] + "far;", 2, ahead.length() + 24);
        refused(ahead + laws[1] + "not not 1;", 2, ahead.length() + 15);
        refused(ahead + laws[1] + "1 and 1;", 2, ahead.length() + 13);
        refused(ahead + laws[1] + "1 or 1;", 2, ahead.length() + 13);
        refused(ahead + laws[1] + "1<=1;", 2, ahead.length() + 12);
        taken(ahead + laws[1] + "((((((((1))))))));", 2);
        taken("law keep " + "not ".repeat(63) + "far;", 1);
        refused("law keep " + "not ".repeat(64) + "far;", 2, 265);
        refused("law keep " + "not ".repeat(66) + "far;", 2, 265);
        about("Terms: a 65th KNOT that can't stand there, or is too large: of one place the least");
        refused(ahead + laws[1] + "1 1;", 1, ahead.length() + 13);
        refused(ahead + laws[1] + "1 not;", 1, ahead.length() + 13);
        refused(ahead + laws[1] + "1;" + laws[2] + "+;", 1, ahead.length() + 24);
        refused(ahead + laws[1] + "1;" + laws[2] + "10000;", 2, ahead.length() + 24);
        refused(ahead + laws[1] + "1;" + laws[2] + "x;", 1, ahead.length() + 24);
        about("Terms: KNOTS of an earlier text don't count");
        GroupTrees x = Checks.of("law keep " + many + "1;law metric 1;");
        due("64 again", Checks.tell(x, "law keep " + many + "1;law metric 1;"), 2);
        Checks.tell(x, "law keep 1+");
        due("a fault leaves them", x.count(3), 64);
        for (int i = 0; i < 5; i++) {
            due("and again", Checks.tell(x, "node a;law keep " + many + "1;law metric 7;"), 3);
            due("64", x.count(3), 64);
            due("their sum", x.law(2, 0, 0), 32);
            due("the other law", x.law(0, 0, 0), 7);
        }
    }

    private static void toldAlready() {
        about("Terms: 3: a name of its kind (at W)");
        refused("node a;node b;node a;", 3, 19);
        refused("node abcdef;node abcdef;", 3, 17);
        taken("node abcdef;node abcdee;", 2);
        refused("node a;source s a;source t a;source s x;", 3, 36);
        taken("node a;source a a;node s;source s a;", 4);
        about("Terms: 3: a NODE of the same LINK (at W)");
        refused(ABC + "link 1 a a;", 3, 52);
        refused(ABC + "link 1 a b a;", 3, 54);
        refused(ABC + "link 1 a b c c;", 3, 56);
        refused(ABC + "link 1 a b c a;", 3, 56);
        taken(ABC + "link 1 a b;link 1 a b;", 7);
        about("Terms: 3: meet, hold, loss, seed (at the word)");
        for (String line : new String[] {"meet a;", "hold 1;", "loss 1;", "seed 1;"}) {
            refused(ABC + line + line, 3, 50);
            refused(ABC + line + line.substring(0, 4), 3, 50);
            refused(ABC + line + line.substring(0, 4) + " 999999;", 3, 50);
        }
        String once = ABC + "meet a;hold 1;loss 1;seed 1;law keep 1;law metric 1;law switch 1;";
        taken(once, 12);
        for (String word : new String[] {"meet", "hold", "loss", "seed"}) {
            refused(once + word, 3, once.length());
        }
        for (String law : new String[] {"keep", "metric", "switch"}) {
            refused(once + "law " + law, 3, once.length() + 4);
        }
        about("Terms: 3: a law of its LAW (at LAW)");
        String[] laws = {"metric", "switch", "keep"};
        for (String one : laws) {
            for (String other : laws) {
                String ahead = "law " + one + " 1;law ";
                if (one.equals(other)) {
                    refused(ahead + other + " 1;", 3, ahead.length());
                    refused(ahead + other, 3, ahead.length());
                } else {
                    taken(ahead + other + " 1;", 2);
                }
            }
        }
        about("Terms: told in an earlier text is not told");
        GroupTrees x = Checks.of("node a;meet a;hold 1;loss 1;seed 1;law keep 1;");
        due("again", Checks.tell(x, "node a;meet a;hold 1;loss 1;seed 1;law keep 1;"), 6);
        due("a fault", Checks.tell(x, "node b;meet b;hold 2;law keep 2;#"), -1);
        due("again", Checks.tell(x, "node b;meet b;hold 2;law keep 2;"), 4);
    }

    private static void untold() {
        about("Terms: 4: a NODE that isn't told ahead (at W)");
        refused(ABC + "link 1 x a;", 4, 50);
        refused(ABC + "link 1 a x;", 4, 52);
        refused(ABC + "link 1 a b c x;", 4, 56);
        refused(ABC + "link 1 x x;", 4, 50);
        refused(ABC + "meet x;", 4, 48);
        refused("meet a;node a;", 4, 5);
        refused(ABC + "source t x;", 4, 52);
        refused(ABC + "join s 1;", 4, 48);
        refused(ABC + "leave s 1;", 4, 49);
        refused("join a 5;node a;", 4, 5);
        about("Terms: 4: a SOURCE that isn't (at W)");
        refused(ABC + "send a 1;", 4, 48);
        refused("node a;send s 1;source s a;", 4, 12);
        about("Terms: 4: a LINK that isn't (at N)");
        refused("node a;node b;cut 0 1;link 1 a b;", 4, 18);
        refused(ABC + "cut 1 1;", 4, 47);
        refused(ABC + "mend 7 1;", 4, 48);
        about("Terms: the first along the text");
        refused("meet a;nodes", 4, 5);
        refused("join a 100;", 4, 5);
        refused("node a;join a 100;meet a;meet a;", 2, 14);
        refused("node a;node a;#", 3, 12);
        refused("hold 1;hold 99;#", 3, 7);
        refused("#hold 99;", 1, 0);
        refused("cut 5 100;", 4, 4);
        refused("cut 8 100;", 2, 4);
        about("Terms: of one place the least");
        refused(SEVEN + "link 1 a b c d a;", 2, 64);
        refused(SEVEN + "link 1 a b c d x;", 2, 64);
        refused(SEVEN + "link 1 a b c d tick;", 1, 64);
        refused(SEVEN + "link 1 a b c d 10;", 1, 64);
        refused(SEVEN + "link 1 a b c d abcdefg;", 1, 64);
        refused(SEVEN + "nodes h;", 1, 49);
        refused("cut 99 1;", 2, 4);
    }

    /** Tokens of LINES, each with what it is: a word of the language, W, N or a sign. */
    private static final String[][] LINES = {
        {"node", "d", ";"}, {"link", "3", "a", "b", "c", ";"}, {"meet", "a", ";"}, {"source", "t", "a", ";"},
        {"join", "a", "5", ";"}, {"leave", "a", "5", ";"}, {"cut", "0", "5", ";"}, {"mend", "0", "5", ";"},
        {"send", "s", "5", ";"}, {"hold", "5", ";"}, {"loss", "5", ";"}, {"seed", "5", ";"},
        {"law", "keep", "not", "(", "1", "+", "far", ")", "*", "2", "<=", "held", "-", "tick", "/", "3", "and", "tree",
            "or", "not", "not", "place", "<>", "heard", ";"}};
    private static final String SIGNS = "+ - * / < <= = <> >= > and or";

    private static void everyToken() {
        about("Terms: 1: the length, if more must come");
        for (String[] line : LINES) {
            StringBuilder text = new StringBuilder(ABC);
            for (int i = 0; i < line.length - 1; i++) {
                text.append(i > 0 ? " " : "").append(line[i]);
                refused(text.toString(), 1, text.length());
                refused(text + " \n ", 1, text.length() + 3);
            }
            taken(text + ";", 6);
        }
        about("Terms: 1: can't stand there");
        for (String[] line : LINES) {
            StringBuilder text = new StringBuilder(ABC);
            for (int i = 0; i < line.length; i++) {
                text.append(i > 0 ? " " : "");
                boolean formula = line[0].equals("law") && i > 1;
                for (String other : "x 7 ; ( ) # node metric not far abcdefg , . ! ' \" & | ^ % [ ] { } ~ @ A _".split(" ")) {
                    if (formula ? !fitsFormula(line, i, other) : !fits(line, i, other)) {
                        refused(text + other + " ", 1, text.length());
                    }
                }
                for (String sign : SIGNS.split(" ")) {
                    if (!formula || sideDue(line, i)) {
                        refused(text + sign + " ", 1, text.length());
                    }
                }
                text.append(line[i]);
            }
        }
        refused(";", 1, 0);
        refused("node a;;", 1, 7);
        refused("law", 1, 3);
        refused("law ;", 1, 4);
        refused("law tick 1;", 1, 4);
        refused("law x 1;", 1, 4);
    }

    private static boolean fits(String[] line, int i, String other) {
        String due = line[i];
        if (i == 0) {
            return other.equals("node");
        }
        if (line[0].equals("law")) {
            return other.equals("metric");
        }
        if (line[0].equals("link") && i == 4) {
            return other.equals("x") || other.equals(";");
        }
        if (line[0].equals("link") && i == 5) {
            return other.equals("x") || other.equals(";");
        }
        if (due.equals(";")) {
            return other.equals(";");
        }
        return Character.isDigit(due.charAt(0)) ? other.equals("7") : other.equals("x");
    }

    private static boolean sideDue(String[] line, int i) {
        String last = line[i - 1];
        return last.equals("keep") || last.equals("not") || last.equals("(") || (" " + SIGNS + " ").contains(" " + last + " ");
    }

    private static boolean fitsFormula(String[] line, int i, String other) {
        if (sideDue(line, i)) {
            String last = line[i - 1];
            boolean notFits = last.equals("keep") || last.equals("not") || last.equals("(") || last.equals("and") || last.equals("or");
            return other.equals("7") || other.equals("far") || other.equals("(") || other.equals("not") && notFits;
        }
        int open = 0;
        for (int k = 0; k < i; k++) {
            open += line[k].equals("(") ? 1 : line[k].equals(")") ? -1 : 0;
        }
        return open > 0 ? other.equals(")") : other.equals(";");
    }

    private static void comparisons() {
        about("Terms: C: S [ ( < | <= | = | <> | >= | > ) S ]: one comparison at most");
        String[] six = {"<", "<=", "=", "<>", ">=", ">"};
        for (String one : six) {
            for (String other : six) {
                String ahead = "law keep 1 " + one + " 2 + 3 ";
                refused(ahead + other + " 4;", 1, ahead.length());
                taken("law keep (1 " + one + " 2) " + other + " 3;", 1);
                taken("law keep 1 " + one + " (2 " + other + " 3);", 1);
                taken("law keep 1 " + one + " 2 and 3 " + other + " 4;", 1);
                taken("law keep not 1 " + one + " 2 or not 3 " + other + " 4;", 1);
            }
            refused("law keep 1 " + one + " not 2;", 1, 12 + one.length());
        }
        for (String sign : new String[] {"+", "-", "*", "/"}) {
            refused("law keep 1 " + sign + " not 2;", 1, 13);
            taken("law keep 1 " + sign + " (not 2);", 1);
        }
        refused("law keep 1 < 2 + not 3;", 1, 17);
        about("Terms: A = (or > behind <) right behind < or > belongs to it");
        taken("law keep 1<=2;", 1);
        taken("law keep 1>=2;", 1);
        taken("law keep 1<>2;", 1);
        refused("law keep 1< =2;", 1, 12);
        refused("law keep 1> =2;", 1, 12);
        refused("law keep 1< >2;", 1, 12);
        refused("law keep 1<\n=2;", 1, 12);
        refused("law keep 1><2;", 1, 11);
        refused("law keep 1>>2;", 1, 11);
        refused("law keep 1<<2;", 1, 11);
        refused("law keep 1=<2;", 1, 11);
        refused("law keep 1=>2;", 1, 11);
        refused("law keep 1==2;", 1, 11);
        refused("law keep 1<==2;", 1, 12);
        refused("law keep 1<>=2;", 1, 12);
        refused("law keep 1>=>2;", 1, 12);
        refused("law keep 1<=>2;", 1, 12);
        cutOff("law keep 1<=2;", 11, 11);
        cutOff("law keep 1<>2;", 11, 11);
        cutOff("law keep 1>=2;", 11, 11);
        about("3: a token ends with the text");
        cutOff("node abc;", 6, 6);
        cutOff("hold 12;", 6, 6);
        cutOff("nodes a;", 4, 4);
        cutOff("law keep 12;", 10, 10);
        cutOff("node abcdefg;", 11, 11);
    }

    /** Of a longer TAPE only the first n bytes are read. */
    private static void cutOff(String text, int n, int place) {
        GroupTrees x = new GroupTrees();
        Checks.put(x, text);
        due("text(" + n + ") of " + text, x.text(n), -1);
        due("fault", x.fault(0), 1);
        due("place", x.fault(1), place);
    }

    private static void fullText() {
        about("3: a TEXT of 700 bytes, many tokens");
        refused(";".repeat(700), 1, 0);
        refused("(".repeat(700), 1, 0);
        taken(" ".repeat(700), 0);
        taken("\n".repeat(699), 0);
        taken(" ".repeat(692) + "node a;\n", 1);
        refused(" ".repeat(699) + "x", 1, 699);
        refused(" ".repeat(696) + "node", 1, 700);
        refused("law keep " + "(1)".repeat(230), 1, 12);
        refused("node a;" + "node".repeat(173), 1, 7);
        refused("hold " + "1".repeat(695), 2, 5);
        refused("node " + "a".repeat(695), 1, 5);
        about("3: how many LINES");
        GroupTrees most = Checks.of(SEVEN + "link 1 a b;".repeat(8) + "meet a;source s a;source t a;source u a;" + "join a 0;".repeat(16)
            + "send s 0;".repeat(14) + "hold 1;loss 1;seed 1;law metric 1;law switch 1;law keep 1;");
        due("nodes", most.count(0), 7);
        due("links", most.count(1), 8);
        taken(SEVEN + "link 1 a b;".repeat(8) + "meet a;source s a;source t a;source u a;" + "join a 0;".repeat(16)
            + "send s 0;".repeat(14) + "hold 1;loss 1;seed 1;law metric 1;law switch 1;law keep 1;", 55);
    }

    public static void main(String[] args) {
        newObject();
        feeding();
        telling();
        laterTexts();
        refusedTexts();
        faultCall();
        naming();
        signsOfTheText();
        words();
        numbers();
        kept();
        tooMany();
        brackets();
        knots();
        toldAlready();
        untold();
        everyToken();
        comparisons();
        fullText();
        Checks.end();
    }
}
