import java.util.ArrayList;
import java.util.List;
import java.util.Random;
import java.util.function.ToLongFunction;

/** The edges of promises 36 to 39: what is undone, IMAGES, counts. */
public final class UndoEdgesTest {
    private static final String PAIR = "node a;node b;link 1 a b;source s a;";

    private static void about(String words) {
        Checks.about(words);
    }

    private static void due(String what, long got, long want) {
        Checks.due(what, got, want);
    }

    private static GroupTrees of(String text) {
        return Checks.of(text);
    }

    private static GroupTrees of(String text, int ticks) {
        return Checks.of(text, ticks);
    }

    private static GroupTrees emptied() {
        GroupTrees x = Checks.rich();
        while (x.undo() > 0) {
            continue;
        }
        return x;
    }

    private static void nothingToUndo() {
        about("36: NONE: none");
        due("new", new GroupTrees().undo(), -1);
        due("told", of(Checks.RICH).undo(), -1);
        due("gone", of(Checks.RICH, 5).undo(), -1);
        Checks.stays("all undone", UndoEdgesTest::emptied, GroupTrees::undo, -1);
        GroupTrees x = Checks.rich();
        due("two left", x.undo(), 2);
        due("one left", x.undo(), 1);
        due("none left", x.undo(), 0);
        due("none", x.undo(), -1);
        due("none again", x.undo(), -1);
        due("one more", x.listen(3), 1);
        due("can be undone", x.undo(), 0);
        x = Checks.rich();
        x.text(7);
        due("a text takes all", x.undo(), -1);
        x = Checks.rich();
        x.text(0);
        due("so does one without lines", x.undo(), -1);
    }

    private static void asItWas() {
        about("4: Adding, cutting, sending by call (all that comes of it; HELD stays by it) can be undone");
        List<ToLongFunction<GroupTrees>> calls = new ArrayList<>();
        for (int i = 0; i < 4; i++) {
            int which = i;
            calls.add(x -> x.listen(which));
            calls.add(x -> x.cut(which));
            calls.add(x -> x.send(which % 2));
        }
        for (int tick = 0; tick < 10; tick++) {
            for (ToLongFunction<GroupTrees> call : calls) {
                for (int way = 0; way < Checks.PROBES; way++) {
                    GroupTrees x = of(Checks.RICH, tick);
                    GroupTrees y = of(Checks.RICH, tick);
                    call.applyAsLong(x);
                    due("one", x.count(16), 1);
                    due("none left", x.undo(), 0);
                    Checks.same("as it was", Checks.probe(x, way), Checks.probe(y, way));
                }
            }
        }
        about("4: HELD stays by it");
        GroupTrees x = of(Checks.RICH, 5);
        String held = heldOf(x);
        for (ToLongFunction<GroupTrees> call : calls) {
            call.applyAsLong(x);
            Checks.same("held", heldOf(x), held);
        }
        for (int i = 0; i < 12; i++) {
            x.undo();
            Checks.same("held", heldOf(x), held);
        }
        about("4: all that comes of it: HEARD, TWICE, MISSED, REGISTERS, ASSERTS, SWITCHED");
        GroupTrees y = of("node m;node b;node c;node a;link 1 m b;link 1 b c;link 1 a b;meet m;source s a;hold 9;join b 0;join c 0;", 2);
        y.cut(1);
        due("b hears", y.send(0), 2);
        due("heard, twice, missed", y.count(6) * 100 + y.count(7) * 10 + y.count(8), 111);
        due("switched", y.node(1, 1), 1);
        y.undo();
        due("nothing", y.count(6) + y.count(7) + y.count(8) + y.node(1, 1), 0);
        GroupTrees z = of(PAIR + "meet b;");
        z.send(0);
        due("a register", z.count(9), 1);
        z.undo();
        due("none", z.count(9), 0);
        GroupTrees w = of("node a;node b;node c;node d;link 1 a b;link 1 a c;link 1 b c d;source s a;join d 0;"
            + "law metric 9 - place * tick;law switch 0;", 3);
        due("d's up isn't who sends", w.send(0), 0);
        due("an assert", w.count(11), 1);
        w.undo();
        due("none", w.count(11), 0);
        about("4: SWITCHED comes back with LISTENING");
        GroupTrees v = of(PAIR + "join b 0;send s 0;", 1);
        due("switched", v.node(1, 1), 1);
        v.listen(1);
        due("hasn't", v.node(1, 1), 0);
        v.undo();
        due("has", v.node(1, 1), 1);
        due("listens", v.node(1, 0), 1);
    }

    private static String heldOf(GroupTrees x) {
        StringBuilder text = new StringBuilder();
        for (int tree = 0; tree < 3; tree++) {
            for (int node = 0; node < 4; node++) {
                for (int link = 0; link < 4; link++) {
                    text.append(x.held(tree, node, link)).append(' ');
                }
            }
        }
        return text.toString();
    }

    private static String looks(GroupTrees x) {
        return "cut " + x.link(0, 2) + x.link(1, 2) + x.link(2, 2) + x.link(3, 2) + " listening "
            + x.node(0, 0) + x.node(1, 0) + x.node(2, 0) + x.node(3, 0) + " heard " + x.count(6) + " twice " + x.count(7)
            + " missed " + x.count(8) + " registers " + x.count(9) + " asserts " + x.count(11)
            + " switched " + x.node(0, 1) + x.node(1, 1) + x.node(2, 1) + x.node(3, 1);
    }

    private static void twenty() {
        about("4: the latest first (20 at most)");
        for (int calls = 0; calls <= 70; calls++) {
            GroupTrees x = of(Checks.RICH, 5);
            List<String> past = new ArrayList<>();
            for (int i = 0; i < calls; i++) {
                past.add(looks(x));
                if (i % 3 == 0) {
                    x.listen(i % 4);
                } else if (i % 3 == 1) {
                    x.cut(i % 4);
                } else {
                    x.send(i % 2);
                }
                due("how many", x.count(16), Math.min(20, i + 1));
            }
            int left = Math.min(20, calls);
            while (left > 0) {
                left--;
                due("left", x.undo(), left);
                Checks.same("as ahead of the latest", looks(x), past.remove(past.size() - 1));
            }
            due("no more", x.undo(), -1);
        }
        about("4: whatever was undone between");
        Random random = new Random(4);
        for (int run = 0; run < 60; run++) {
            GroupTrees x = of(Checks.RICH, run % 9);
            List<String> past = new ArrayList<>();
            for (int i = 0; i < 25 + random.nextInt(15); i++) {
                int which = random.nextInt(5);
                if (which < 3) {
                    past.add(looks(x));
                    if (past.size() > 20) {
                        past.remove(0);
                    }
                    due("done", which == 0 ? x.listen(run % 4) >> 1 : which == 1 ? x.cut(i % 4) >> 1 : x.send(i % 2) >> 4, 0);
                } else {
                    due("undo", x.undo(), past.size() - 1);
                    if (!past.isEmpty()) {
                        Checks.same("undone", looks(x), past.remove(past.size() - 1));
                    }
                }
                due("how many", x.count(16), past.size());
            }
        }
    }

    private static void ticks() {
        about("4: if no TICK went by since");
        GroupTrees x = Checks.rich();
        due("none went by", x.go(0), 5);
        due("refused", x.go(-1) + x.go(201), -2);
        due("three yet", x.count(16), 3);
        due("one went by", x.go(1), 6);
        due("nothing", x.count(16), 0);
        due("none", x.undo(), -1);
        x.listen(0);
        x.go(200);
        due("nothing again", x.undo(), -1);
        GroupTrees full = of(Checks.RICH);
        for (int i = 0; i < 20; i++) {
            full.cut(0);
        }
        full.go(1);
        due("of twenty none", full.undo(), -1);
        full.cut(1);
        due("one", full.count(16), 1);
        due("undone", full.undo(), 0);
        due("whole", full.link(1, 2), 0);
        due("none of the twenty", full.undo(), -1);
    }

    private static void keeping() {
        about("37: which TICK it is");
        due("new", new GroupTrees().keep(), 0);
        due("5", Checks.rich().keep(), 5);
        GroupTrees end = of(Checks.RICH);
        for (int i = 0; i < 45; i++) {
            end.go(200);
        }
        due("9000", end.keep(), 9000);
        about("37: all else stays by it");
        for (int way = 0; way < Checks.PROBES; way++) {
            if (way != 3) {
                GroupTrees x = Checks.rich();
                x.keep();
                Checks.same("keep (" + way + ")", Checks.probe(x, way), Checks.probe(Checks.rich(), way));
            }
        }
        about("37: in place of one ahead");
        GroupTrees x = Checks.rich();
        due("that of 4", x.back(), 4);
        x.go(3);
        due("now of 7", x.keep(), 7);
        x.go(2);
        due("back to 7", x.back(), 7);
        due("and again", x.back(), 7);
    }

    private static void backNone() {
        about("38: NONE: there is none");
        due("new", new GroupTrees().back(), -1);
        due("told", of(Checks.RICH).back(), -1);
        GroupTrees x = Checks.rich();
        due("a text takes it", x.text(7) + x.back(), 0);
        x = Checks.rich();
        due("one without lines too", x.text(0) + x.back(), -1);
        x = Checks.rich();
        due("a fault doesn't", x.text(6) + x.back(), 3);
        x = Checks.rich();
        due("nor -2", x.text(21) + x.back(), 2);
        for (int way = 0; way < Checks.PROBES; way++) {
            GroupTrees y = of(Checks.RICH, 5);
            y.listen(2);
            y.cut(1);
            GroupTrees z = of(Checks.RICH, 5);
            z.listen(2);
            z.cut(1);
            due("none", y.back(), -1);
            Checks.same("all stays (" + way + ")", Checks.probe(y, way), Checks.probe(z, way));
        }
    }

    private static void backAgain() {
        about("38: All (but NOTES) is as in the IMAGE (nothing to undo then)");
        for (int tick = 0; tick < 10; tick++) {
            for (int way = 0; way < Checks.PROBES; way++) {
                GroupTrees x = of(Checks.RICH, tick);
                GroupTrees y = of(Checks.RICH, tick);
                y.keep();
                x.keep();
                x.listen(0);
                x.send(1);
                x.cut(0);
                x.go(3);
                x.send(0);
                x.listen(1);
                due("back", x.back(), tick);
                due("nothing to undo", x.undo(), -1);
                Checks.same("as then (" + tick + ", " + way + ")", Checks.probe(x, way), Checks.probe(y, way));
            }
        }
        about("38: what could be undone in the IMAGE can't");
        GroupTrees u = of(Checks.RICH, 3);
        u.listen(3);
        u.keep();
        due("one now", u.count(16), 1);
        due("back", u.back(), 3);
        due("nothing", u.undo(), -1);
        due("it listens as then", u.node(3, 0), 1);
        about("38: the numbers go on as from the IMAGE");
        String drawn = PAIR + "join b 0;law switch 0;hold 20;seed 8;loss 50;" + "send s 1;".repeat(7) + "send s 3;".repeat(7);
        GroupTrees n = of(drawn, 2);
        n.keep();
        n.go(2);
        int heard = n.node(1, 2);
        for (int i = 0; i < 3; i++) {
            n.back();
            n.go(2);
            due("the same", n.node(1, 2), heard);
        }
        about("4: An IMAGE keeps all but NOTES");
        GroupTrees x = of(PAIR);
        x.note(0, 1, 5, true);
        x.known(1);
        x.keep();
        x.note(0, 1, 3, true);
        x.strike(0);
        x.known(3);
        x.go(2);
        x.back();
        due("notes and strikes stay", x.count(14), 3);
        due("what is known stays", x.count(15), 3);
        due("by them", x.costs(0), 7);
        due("the next number", x.note(0, 1, 9, true), 3);
        about("38: from the last TICK back");
        GroupTrees end = of(Checks.RICH, 200);
        end.keep();
        for (int i = 0; i < 44; i++) {
            end.go(200);
        }
        due("no more", end.go(1), -1);
        due("back", end.back(), 200);
        due("it goes again", end.go(200), 400);
    }

    private static void counts() {
        about("39: NONE for another what");
        GroupTrees x = Checks.rich();
        for (int what : Checks.WILD) {
            long got = x.count(what);
            due("what " + what, got < 0 ? got : 0, what >= 0 && what <= 16 ? 0 : -1);
        }
        due("17", x.count(17), -1);
        due("-2 alone of 13", new GroupTrees().count(13), -2);
        about("39: each of the counts");
        int[] want = {4, 4, 2, 11, 5, 3};
        for (int what = 0; what < want.length; what++) {
            due("what " + what, x.count(what), want[what]);
        }
        int heard = 0;
        int twice = 0;
        int missed = 0;
        int held = 0;
        for (int node = 0; node < 4; node++) {
            heard += x.node(node, 2);
            twice += x.node(node, 3);
            missed += x.node(node, 4);
            for (int at = 0; at < 12; at++) {
                held += x.held(at / 4, node, at % 4) > 0 ? 1 : 0;
            }
        }
        due("heard", x.count(6), heard);
        due("twice", x.count(7), twice);
        due("missed", x.count(8), missed);
        due("held", x.count(12), held);
        due("meeting", x.count(13), 0);
        due("notes and strikes", x.count(14), 3);
        due("known by", x.count(15), 2);
        due("to undo", x.count(16), 3);
        about("39: LISTENERS: none, all");
        GroupTrees all = of("node a;node b;node c;node d;node e;node f;node g;");
        for (int node = 0; node < 7; node++) {
            due("so many", all.count(5), node);
            all.listen(node);
        }
        due("seven", all.count(5), 7);
    }

    private static void manyCalls() {
        about("An object is used for at most 512 calls");
        GroupTrees x = of(PAIR + "join b 0;");
        int calls = 3;
        due("one", x.go(1), 1);
        for (calls++; calls < 511; calls++) {
            due("listen", x.listen(0), calls % 2 == 0 ? 1 : 0);
        }
        due("511", x.count(16), 20);
        due("512", x.undo(), 19);
    }

    public static void main(String[] args) {
        nothingToUndo();
        asItWas();
        twenty();
        ticks();
        keeping();
        backNone();
        backAgain();
        counts();
        manyCalls();
        Checks.end();
    }
}
