import java.util.Arrays;
import java.util.NoSuchElementException;

/** Many-sender group trees: shared links, a meeting node, sources, listeners, ticks. */
public final class GroupTrees {
    public static final int NONE = -1;

    private static final int NOT_SO = -2;
    private static final int NODES = 7;
    private static final int LINKS = 8;
    private static final int SOURCES = 3;
    private static final int TREES = SOURCES + 1;
    private static final int EVENTS = 16;
    private static final int SENDS = 14;
    private static final int LAWS = 3;
    private static final int KNOTS = 64;
    private static final int TAPE = 700;
    private static final int NOWHERE = 99;
    private static final int LAST_TICK = 9000;
    private static final int PATIENCE = 99;
    private static final int UNDOS = 20;
    private static final int NOTES = 24;
    private static final int TOP_COST = 9;

    // A law that is not told, and one whose working out fails, answer this.
    private static final long ERROR = Long.MIN_VALUE;
    private static final long BIGGEST = 1_000_000_000_000L;

    // Token kinds: the words of the language, in the order of LANGUAGE, come first.
    private static final String LANGUAGE =
        "node link meet source join leave cut mend send hold loss seed law metric switch keep or and not far place heard twice held tree tick ";
    private static final int NODE = 0;
    private static final int LINK = 1;
    private static final int MEET = 2;
    private static final int SOURCE = 3;
    private static final int JOIN = 4;
    private static final int LEAVE = 5;
    private static final int CUT = 6;
    private static final int MEND = 7;
    private static final int SEND = 8;
    private static final int HOLD = 9;
    private static final int LOSS = 10;
    private static final int SEED = 11;
    private static final int LAW = 12;
    private static final int METRIC = 13;
    private static final int SWITCH = 14;
    private static final int KEEP = 15;
    private static final int OR = 16;
    private static final int AND = 17;
    private static final int NOT = 18;
    private static final int FAR = 19;
    private static final int PLACE = 20;
    private static final int HEARD = 21;
    private static final int TWICE = 22;
    private static final int HELD = 23;
    private static final int TREE = 24;
    private static final int TICK = 25;
    private static final int WORDS = 26;
    private static final int NAME = 26;
    private static final int NUMBER = 27;
    private static final int STOP = 28;
    private static final int OPEN = 29;
    private static final int CLOSE = 30;
    private static final int PLUS = 31;
    private static final int MINUS = 32;
    private static final int TIMES = 33;
    private static final int BY = 34;
    private static final int LESS = 35;
    private static final int AT_MOST = 36;
    private static final int EQUAL = 37;
    private static final int UNLIKE = 38;
    private static final int AT_LEAST = 39;
    private static final int MORE = 40;
    private static final int END = 41;
    private static final int BAD = 42;

    private static final int LETTERS = 6;
    private static final int BIG_NUMBER = 1_000_000;

    private static final int MISPLACED = 1;
    private static final int TOO_MUCH = 2;
    private static final int TOLD_ALREADY = 3;
    private static final int UNTOLD = 4;

    private static final int COMPARING = 4;
    private static final int OPEN_AT_ONCE = 8;

    // What TRIED changes; a course with none of these goes as it goes.
    private static final int NO_TRIAL = -1;
    private static final int NO_LOSS = 0;
    private static final int NO_SWITCHING = 1;
    private static final int NO_LISTENER = 2;
    private static final int NO_CUTTING = 3;
    private static final int BRIEF_HOLDING = 4;

    private final Tokens tokens = new Tokens();
    private Plan spare = new Plan();
    private final Reader reader = new Reader(tokens, spare);
    private final Net net = new Net(new Plan());
    private final Course course = new Course(net);
    private final State now = new State();
    private final State image = new State();
    private final State trial = new State();
    private final Past past = new Past();
    private final Notes notes = new Notes(net);
    private final int[] row = new int[NODES];
    private boolean kept = false;
    private int fault = 0;
    private int faultPlace = NONE;

    public GroupTrees() {
    }

    public int feed(int a, int b, int c, int d, int e) {
        if (tokens.size + 20 > TAPE) {
            return NONE;
        }
        tokens.append(a);
        tokens.append(b);
        tokens.append(c);
        tokens.append(d);
        tokens.append(e);
        return tokens.size;
    }

    public int text(int n) {
        if (n < 0 || n > tokens.size) {
            return NOT_SO;
        }
        boolean sound = reader.read(spare, n);
        tokens.size = 0;
        fault = reader.fault;
        faultPlace = reader.place;
        if (!sound) {
            return NONE;
        }
        Plan old = net.plan;
        net.take(spare);
        spare = old;
        now.restart(net.plan.seed);
        notes.restart();
        past.clear();
        kept = false;
        return reader.lines;
    }

    public int fault(int what) {
        switch (what) {
            case 0: return fault;
            case 1: return faultPlace;
            default: return NONE;
        }
    }

    public int named(int what, int letters) {
        Plan plan = net.plan;
        switch (what) {
            case 0: return find(plan.nodeName, plan.nodes, letters);
            case 1: return find(plan.sourceName, plan.sources, letters);
            default: return NONE;
        }
    }

    public int node(int node, int what) throws IndexOutOfBoundsException, NoSuchElementException {
        if (!isNode(node)) {
            throw new IndexOutOfBoundsException("no such node");
        }
        switch (what) {
            case 0: return now.listening >> node & 1;
            case 1: return now.switchedTo(node);
            case 2: return now.heard[node];
            case 3: return now.twice[node];
            case 4: return now.missed[node];
            default: throw new NoSuchElementException("no such what");
        }
    }

    public int link(int link, int what) {
        if (!isLink(link)) {
            return NONE;
        }
        switch (what) {
            case 0: return net.plan.cost[link];
            case 1: return net.plan.members[link];
            case 2: return now.cut >> link & 1;
            default: return NONE;
        }
    }

    public int far(int tree, int node) {
        if (!isTree(tree) || !isNode(node)) {
            return NONE;
        }
        net.measure(now.cut);
        return net.far[tree * NODES + node];
    }

    public int up(int tree, int node, int what) {
        if (!isTree(tree) || !isNode(node) || what < 0 || what > 1) {
            return NONE;
        }
        net.measure(now.cut);
        int up = net.climb(now, tree, node);
        if (up < 0) {
            return NOT_SO;
        }
        return what == 0 ? up / LINKS : up % LINKS;
    }

    public int held(int tree, int node, int link) {
        if (!isTree(tree) || !isNode(node) || !isLink(link)) {
            return NONE;
        }
        return now.held[(tree * NODES + node) * LINKS + link];
    }

    public int wants(int tree, int node) {
        if (!isTree(tree) || !isNode(node)) {
            return NONE;
        }
        return net.wanted(now, tree, node) ? 1 : 0;
    }

    public long law(int what, int tree, int node) {
        if (what < 0 || what >= LAWS || !isTree(tree) || !isNode(node)) {
            return ERROR;
        }
        if (what == SWITCH - METRIC && tree == 0) {
            return ERROR;
        }
        net.measure(now.cut);
        return net.work(METRIC + what, now, tree, node);
    }

    public int listen(int node) {
        if (!isNode(node)) {
            return NONE;
        }
        past.remember(now);
        if ((now.listening >> node & 1) != 0) {
            now.stopListening(node);
            return 0;
        }
        now.listening |= 1 << node;
        return 1;
    }

    public int cut(int link) {
        if (!isLink(link)) {
            return NONE;
        }
        past.remember(now);
        now.cut ^= 1 << link;
        return now.cut >> link & 1;
    }

    public int send(int source) {
        if (!isSource(source)) {
            return NONE;
        }
        past.remember(now);
        net.measure(now.cut);
        course.plain(false);
        return course.packet(now, source);
    }

    public int go(int n) {
        if (n < 0 || n > 200 || now.tick + n > LAST_TICK) {
            return NONE;
        }
        if (n > 0) {
            past.clear();
        }
        course.drawing();
        course.run(now, n);
        return now.tick;
    }

    public int ahead(int n, int what) {
        if (n < 0 || n > 60 || what < 0 || what > 4) {
            return NONE;
        }
        trial.copyFrom(now);
        course.plain(false);
        course.run(trial, n);
        switch (what) {
            case 0: return sum(trial.heard) - sum(now.heard);
            case 1: return sum(trial.twice) - sum(now.twice);
            case 2: return sum(trial.missed) - sum(now.missed);
            case 3: return trial.registers - now.registers;
            default: return trial.suppressed - now.suppressed;
        }
    }

    public int quiet(int tree) {
        if (!isTree(tree)) {
            return NONE;
        }
        trial.copyFrom(now);
        trial.listening = 0;
        Arrays.fill(trial.switched, 0);
        course.plain(true);
        for (int ticks = 0; ticks <= PATIENCE; ticks++) {
            if (trial.linksHeld(tree) == 0) {
                return ticks;
            }
            course.run(trial, 1);
        }
        return NOT_SO;
    }

    public int settled() {
        trial.copyFrom(now);
        course.plain(true);
        net.measure(trial.cut);
        for (int ticks = 0; ticks <= PATIENCE; ticks++) {
            if (net.allJoined(trial)) {
                return ticks;
            }
            course.run(trial, 1);
        }
        return NOT_SO;
    }

    public int way(int tree, int node) {
        if (!isTree(tree) || !isNode(node)) {
            return NONE;
        }
        net.measure(now.cut);
        if (net.far[tree * NODES + node] >= NOWHERE) {
            return NOT_SO;
        }
        int bits = 1 << node;
        int at = net.climb(now, tree, node);
        for (int i = 0; i < NODES && at >= 0; i++) {
            bits |= 1 << at % LINKS;
            at = net.climb(now, tree, at % LINKS);
        }
        return bits;
    }

    public int best(int what) {
        if (what < 0 || what > 1) {
            return NONE;
        }
        int best = NOT_SO;
        int least = NOT_SO;
        for (int root = 0; root < net.plan.nodes; root++) {
            net.plan.spread(net.plan.cost, now.cut, root, row, 0);
            int sum = 0;
            for (int node = 0; node < net.plan.nodes; node++) {
                sum += (now.listening >> node & 1) * row[node];
            }
            if (best < 0 || sum < least) {
                best = root;
                least = sum;
            }
        }
        return what == 0 ? best : least;
    }

    public int least(int source, int what) {
        if (!isSource(source) || what < 0 || what > 1) {
            return NONE;
        }
        Plan plan = net.plan;
        int root = 1 << plan.sourceNode[source];
        int best = NOT_SO;
        int least = NOT_SO;
        for (int links = 0; links < 1 << plan.links; links++) {
            if ((links & now.cut) == 0) {
                int sum = plan.price(links);
                if ((best < 0 || sum < least) && (now.listening & ~plan.reach(root, links)) == 0) {
                    best = links;
                    least = sum;
                }
            }
        }
        return what == 0 ? best : least;
    }

    public int needed(int tree) {
        if (!isTree(tree)) {
            return NONE;
        }
        Plan plan = net.plan;
        int root = plan.root(tree);
        if (root < 0) {
            return 0;
        }
        int whole = (1 << plan.links) - 1 & ~now.cut;
        int served = now.listening & plan.reach(1 << root, whole);
        int bits = 0;
        for (int link = 0; link < plan.links; link++) {
            int bit = 1 << link;
            if ((whole & bit) != 0 && (served & ~plan.reach(1 << root, whole & ~bit)) != 0) {
                bits |= bit;
            }
        }
        return bits;
    }

    public int wide(int tree) {
        if (!isTree(tree)) {
            return NONE;
        }
        net.measure(now.cut);
        int most = 0;
        for (int node = 0; node < net.plan.nodes; node++) {
            int far = net.far[tree * NODES + node];
            if (far < NOWHERE) {
                most = Math.max(most, far);
            }
        }
        return most;
    }

    public int used(int tree) {
        return isTree(tree) ? now.linksHeld(tree) : NONE;
    }

    public int rests(int tree, int one, int other) {
        if (!arePair(tree, one, other)) {
            return NONE;
        }
        return Integer.bitCount(restBits(tree, one, other));
    }

    public int rest(int tree, int one, int other, int k) {
        if (!arePair(tree, one, other) || k < 0) {
            return NONE;
        }
        int bits = restBits(tree, one, other);
        int left = k;
        for (int pair = 0; pair < 4; pair++) {
            if ((bits >> pair & 1) != 0) {
                if (left == 0) {
                    return pair / 2 * 10 + pair % 2;
                }
                left--;
            }
        }
        return NOT_SO;
    }

    public long holds(int n, int what) {
        if (n < 0 || n > 6 || what < 0 || what > 1) {
            return NONE;
        }
        int above = 100 - net.plan.loss;
        int common = common(above, 100);
        long base = (what == 0 ? above : 100) / (common == 0 ? 1 : common);
        long answer = 1;
        for (int i = 0; i < n; i++) {
            answer *= base;
        }
        return answer;
    }

    public int note(int from, int to, int far, boolean atMost) {
        if (!isNode(from) || !isNode(to) || from == to || far < 0 || far > NOWHERE) {
            return NONE;
        }
        return notes.add(atMost ? Notes.NEAR : Notes.BEYOND, from, to, far);
    }

    public int strike(int note) {
        if (note < 0 || note >= notes.count) {
            return NONE;
        }
        return notes.add(Notes.STROKE, note, 0, 0);
    }

    public boolean known(int n) {
        if (n < -1 || n > notes.count) {
            return false;
        }
        notes.first = n;
        return true;
    }

    public int costs(int link) {
        return isLink(link) ? notes.fitting(link) : NONE;
    }

    public int ask(int link, int what) {
        if (!isLink(link) || what < 0 || what > 2) {
            return NONE;
        }
        if (net.plan.nodes < 2) {
            return NOT_SO;
        }
        notes.question(link);
        switch (what) {
            case 0: return notes.askFrom;
            case 1: return notes.askTo;
            default: return notes.askLeft;
        }
    }

    public int chance(int seed, int n, int node, int heard) {
        if (seed < 0 || n < 1 || n > 40 || !isNode(node) || heard < 0 || heard > 99) {
            return NONE;
        }
        course.drawing();
        int loss = net.plan.loss;
        // Where no number is drawn, all ten times go alike.
        int times = loss == 0 || loss == 100 ? 1 : 10;
        int last = seed;
        int enough = 0;
        for (int i = 0; i < times; i++) {
            trial.copyFrom(now);
            trial.random = last;
            course.run(trial, n);
            last = trial.random;
            if (trial.heard[node] >= heard) {
                enough++;
            }
        }
        return times == 1 ? enough * 10 : enough;
    }

    public int tried(int what, int i, int n) {
        if (what < NO_LOSS || what > BRIEF_HOLDING || n < 0 || n > 60) {
            return NONE;
        }
        if (what == NO_LISTENER ? !isNode(i) : i != 0) {
            return NONE;
        }
        trial.copyFrom(now);
        if (what == NO_LISTENER) {
            trial.stopListening(i);
        }
        course.otherwise(what, i);
        course.run(trial, n);
        return sum(trial.heard) - sum(now.heard);
    }

    public int undo() {
        if (past.count == 0) {
            return NONE;
        }
        past.recall(now);
        return past.count;
    }

    public int keep() {
        image.copyFrom(now);
        kept = true;
        return now.tick;
    }

    public int back() {
        if (!kept) {
            return NONE;
        }
        now.copyFrom(image);
        past.clear();
        return now.tick;
    }

    public int count(int what) {
        switch (what) {
            case 0: return net.plan.nodes;
            case 1: return net.plan.links;
            case 2: return net.plan.sources;
            case 3: return net.plan.laws.knots;
            case 4: return now.tick;
            case 5: return Integer.bitCount(now.listening);
            case 6: return sum(now.heard);
            case 7: return sum(now.twice);
            case 8: return sum(now.missed);
            case 9: return now.registers;
            case 10: return now.suppressed;
            case 11: return now.asserts;
            case 12: return now.heldInAll();
            case 13: return net.plan.nodes == 0 ? NOT_SO : net.plan.root(0);
            case 14: return notes.count;
            case 15: return notes.inForce();
            case 16: return past.count;
            default: return NONE;
        }
    }

    private boolean isNode(int node) {
        return node >= 0 && node < net.plan.nodes;
    }

    private boolean isLink(int link) {
        return link >= 0 && link < net.plan.links;
    }

    private boolean isSource(int source) {
        return source >= 0 && source < net.plan.sources;
    }

    private boolean isTree(int tree) {
        return tree >= 0 && tree <= net.plan.sources;
    }

    private boolean arePair(int tree, int one, int other) {
        return isTree(tree) && isNode(one) && isNode(other) && one != other;
    }

    /** The rests of YIELD as bits: twice what the first one does, and what the second one does. */
    private int restBits(int tree, int one, int other) {
        net.measure(now.cut);
        int farOne = net.far[tree * NODES + one];
        int farOther = net.far[tree * NODES + other];
        int bits = 0;
        for (int pair = 0; pair < 4; pair++) {
            int mine = pair / 2;
            int yours = pair % 2;
            if (gain(farOne, mine, yours) >= gain(farOne, 1 - mine, yours)
                && gain(farOther, yours, mine) >= gain(farOther, 1 - yours, mine)) {
                bits |= 1 << pair;
            }
        }
        return bits;
    }

    private static int gain(int far, int mine, int yours) {
        if (mine == 0) {
            return yours == 0 ? Math.max(0, 9 - far) / 2 : Math.max(0, 10 - far);
        }
        return yours == 0 ? 3 : 0;
    }

    private static int common(int one, int other) {
        int a = one;
        int b = other;
        for (int i = 0; i < 64 && b != 0; i++) {
            int rest = a % b;
            a = b;
            b = rest;
        }
        return a;
    }

    private static int sum(int[] row) {
        int sum = 0;
        for (int i = 0; i < row.length; i++) {
            sum += row[i];
        }
        return sum;
    }

    private static int find(int[] names, int count, int name) {
        for (int i = 0; i < count && i < names.length; i++) {
            if (names[i] == name) {
                return i;
            }
        }
        return NONE;
    }

    /** The laws of a TEXT, each in a row of KNOTS with the sides ahead of their sign. */
    private static final class Laws {
        final int[] kind = new int[KNOTS];
        final int[] number = new int[KNOTS];
        final int[] begin = new int[LAWS];
        final int[] end = new int[LAWS];
        int knots = 0;
        int size = 0;

        void forget() {
            Arrays.fill(begin, 0);
            Arrays.fill(end, 0);
            knots = 0;
            size = 0;
        }

        boolean isTold(int law) {
            return end[law - METRIC] > begin[law - METRIC];
        }

        void emit(int what, int value) {
            if (size < KNOTS) {
                kind[size] = what;
                number[size] = value;
                size++;
            }
        }
    }

    /** What a TEXT tells. */
    private static final class Plan {
        final int[] nodeName = new int[NODES];
        final int[] cost = new int[LINKS];
        final int[] members = new int[LINKS];
        final int[] sourceName = new int[SOURCES];
        final int[] sourceNode = new int[SOURCES];
        final int[] eventKind = new int[EVENTS];
        final int[] eventWho = new int[EVENTS];
        final int[] eventTick = new int[EVENTS];
        final int[] sendSource = new int[SENDS];
        final int[] sendTick = new int[SENDS];
        final Laws laws = new Laws();
        int nodes = 0;
        int links = 0;
        int sources = 0;
        int events = 0;
        int sends = 0;
        int meeting = 0;
        int hold = 4;
        int loss = 0;
        int seed = 0;

        void clear() {
            laws.forget();
            nodes = 0;
            links = 0;
            sources = 0;
            events = 0;
            sends = 0;
            meeting = 0;
            hold = 4;
            loss = 0;
            seed = 0;
        }

        int root(int tree) {
            if (nodes == 0) {
                return NONE;
            }
            return tree == 0 ? meeting : sourceNode[tree - 1];
        }

        /** Puts how far each NODE is from root, by these costs, into a row from a place on. */
        void spread(int[] costs, int cut, int root, int[] far, int at) {
            for (int node = 0; node < nodes; node++) {
                far[at + node] = node == root ? 0 : NOWHERE;
            }
            boolean moved = true;
            for (int round = 0; round < nodes && moved; round++) {
                moved = false;
                for (int link = 0; link < links; link++) {
                    if ((cut >> link & 1) == 0 && relax(members[link], costs[link], far, at)) {
                        moved = true;
                    }
                }
            }
        }

        private boolean relax(int on, int price, int[] far, int at) {
            int nearest = NOWHERE;
            for (int node = 0; node < nodes; node++) {
                if ((on >> node & 1) != 0) {
                    nearest = Math.min(nearest, far[at + node]);
                }
            }
            boolean moved = false;
            for (int node = 0; node < nodes; node++) {
                if ((on >> node & 1) != 0 && nearest + price < far[at + node]) {
                    far[at + node] = nearest + price;
                    moved = true;
                }
            }
            return moved;
        }

        /** The NODES that hang together with these by those LINKS. */
        int reach(int from, int by) {
            int reached = from;
            for (int round = 0; round < links; round++) {
                for (int link = 0; link < links; link++) {
                    if ((by >> link & 1) != 0 && (members[link] & reached) != 0) {
                        reached |= members[link];
                    }
                }
            }
            return reached;
        }

        int price(int of) {
            int sum = 0;
            for (int link = 0; link < links; link++) {
                sum += (of >> link & 1) * cost[link];
            }
            return sum;
        }
    }

    /** All that TICKS and calls change. */
    private static final class State {
        static final int PACKED = 4 + SOURCES + 3 * NODES;

        final int[] switched = new int[SOURCES];
        final int[] heard = new int[NODES];
        final int[] twice = new int[NODES];
        final int[] missed = new int[NODES];
        final int[] held = new int[TREES * NODES * LINKS];
        // Of a NODE in a TREE: the LINKS on which HELD is above 0, so that nobody has to look for them.
        final int[] sending = new int[TREES * NODES];
        int tick = 0;
        int listening = 0;
        int cut = 0;
        int registers = 0;
        int suppressed = 0;
        int asserts = 0;
        int random = 0;

        void restart(int seed) {
            Arrays.fill(switched, 0);
            Arrays.fill(heard, 0);
            Arrays.fill(twice, 0);
            Arrays.fill(missed, 0);
            Arrays.fill(held, 0);
            Arrays.fill(sending, 0);
            tick = 0;
            listening = 0;
            cut = 0;
            registers = 0;
            suppressed = 0;
            asserts = 0;
            random = seed;
        }

        void copyFrom(State other) {
            System.arraycopy(other.switched, 0, switched, 0, SOURCES);
            System.arraycopy(other.heard, 0, heard, 0, NODES);
            System.arraycopy(other.twice, 0, twice, 0, NODES);
            System.arraycopy(other.missed, 0, missed, 0, NODES);
            System.arraycopy(other.held, 0, held, 0, TREES * NODES * LINKS);
            System.arraycopy(other.sending, 0, sending, 0, TREES * NODES);
            tick = other.tick;
            listening = other.listening;
            cut = other.cut;
            registers = other.registers;
            suppressed = other.suppressed;
            asserts = other.asserts;
            random = other.random;
        }

        /** Writes down what a call of listen, cut or send may change: HELD and the TICK stay. */
        void pack(int[] row, int at) {
            row[at] = listening;
            row[at + 1] = cut;
            row[at + 2] = registers;
            row[at + 3] = asserts;
            int next = at + 4;
            System.arraycopy(switched, 0, row, next, SOURCES);
            System.arraycopy(heard, 0, row, next + SOURCES, NODES);
            System.arraycopy(twice, 0, row, next + SOURCES + NODES, NODES);
            System.arraycopy(missed, 0, row, next + SOURCES + 2 * NODES, NODES);
        }

        void unpack(int[] row, int at) {
            listening = row[at];
            cut = row[at + 1];
            registers = row[at + 2];
            asserts = row[at + 3];
            int next = at + 4;
            System.arraycopy(row, next, switched, 0, SOURCES);
            System.arraycopy(row, next + SOURCES, heard, 0, NODES);
            System.arraycopy(row, next + SOURCES + NODES, twice, 0, NODES);
            System.arraycopy(row, next + SOURCES + 2 * NODES, missed, 0, NODES);
        }

        void stopListening(int node) {
            listening &= ~(1 << node);
            for (int source = 0; source < SOURCES; source++) {
                switched[source] &= ~(1 << node);
            }
        }

        int switchedTo(int node) {
            int bits = 0;
            for (int source = 0; source < SOURCES; source++) {
                bits |= (switched[source] >> node & 1) << source;
            }
            return bits;
        }

        /** HELD on a LINK becomes so many TICKS; at: NODES times the TREE, and the NODE. */
        void hold(int at, int link, int ticks) {
            held[at * LINKS + link] = ticks;
            sending[at] |= 1 << link;
        }

        void fade() {
            for (int at = 0; at < sending.length; at++) {
                for (int link = 0; link < LINKS && sending[at] >> link != 0; link++) {
                    if ((sending[at] >> link & 1) != 0) {
                        held[at * LINKS + link]--;
                        if (held[at * LINKS + link] == 0) {
                            sending[at] &= ~(1 << link);
                        }
                    }
                }
            }
        }

        int linksHeld(int tree) {
            int bits = 0;
            for (int node = 0; node < NODES; node++) {
                bits |= sending[tree * NODES + node];
            }
            return bits;
        }

        int heldInAll() {
            int count = 0;
            for (int at = 0; at < sending.length; at++) {
                count += Integer.bitCount(sending[at]);
            }
            return count;
        }
    }

    /** The last changes by call, each as the state was ahead of it; the oldest give way. */
    private static final class Past {
        private final int[] rows = new int[UNDOS * State.PACKED];
        private int next = 0;
        int count = 0;

        void clear() {
            count = 0;
        }

        void remember(State state) {
            state.pack(rows, next * State.PACKED);
            next = (next + 1) % UNDOS;
            count = Math.min(count + 1, UNDOS);
        }

        void recall(State state) {
            next = (next + UNDOS - 1) % UNDOS;
            count--;
            state.unpack(rows, next * State.PACKED);
        }
    }

    /** The TREES of a TEXT by what is whole: FAR, UP, who wants what, the laws worked out. */
    private static final class Net {
        final int[] far = new int[TREES * NODES];
        // UP as the LINK alone tells it, and the NODES among which metric has to choose (0: none).
        private final int[] firstUp = new int[TREES * NODES];
        private final int[] rivals = new int[TREES * NODES];
        private final long[] stack = new long[KNOTS];
        private boolean measured = false;
        private int measuredCut = 0;
        Plan plan;

        Net(Plan first) {
            plan = first;
        }

        void take(Plan told) {
            plan = told;
            measured = false;
        }

        /** Makes FAR right for these LINKS cut; whatever asks for FAR or UP comes behind this. */
        void measure(int cut) {
            if (measured && measuredCut == cut) {
                return;
            }
            for (int tree = 0; tree <= plan.sources; tree++) {
                plan.spread(plan.cost, cut, plan.root(tree), far, tree * NODES);
                for (int node = 0; node < plan.nodes; node++) {
                    lookUp(cut, tree * NODES, node);
                }
            }
            measured = true;
            measuredCut = cut;
        }

        private void lookUp(int cut, int row, int node) {
            firstUp[row + node] = NONE;
            rivals[row + node] = 0;
            int own = far[row + node];
            for (int link = 0; link < plan.links && own < NOWHERE; link++) {
                int on = (cut >> link & 1) == 0 ? plan.members[link] : 0;
                int near = (on >> node & 1) == 0 ? 0 : nearer(on, row, own - plan.cost[link]);
                if (near != 0) {
                    firstUp[row + node] = link * LINKS + lowest(near);
                    // Without metric those left are equally FAR, so the first one is UP.
                    rivals[row + node] = plan.laws.isTold(METRIC) && (near & near - 1) != 0 ? near : 0;
                    return;
                }
            }
        }

        private int nearer(int on, int row, int due) {
            int bits = 0;
            for (int node = 0; node < plan.nodes; node++) {
                if ((on >> node & 1) != 0 && far[row + node] == due) {
                    bits |= 1 << node;
                }
            }
            return bits;
        }

        private static int lowest(int bits) {
            int node = 0;
            for (int i = 0; i < NODES && (bits >> node & 1) == 0; i++) {
                node++;
            }
            return node;
        }

        /** UP of a NODE: LINKS times the LINK, and the NODE; NONE without. */
        int climb(State state, int tree, int node) {
            int at = tree * NODES + node;
            if (rivals[at] == 0) {
                return firstUp[at];
            }
            return firstUp[at] / LINKS * LINKS + preferred(state, tree, rivals[at]);
        }

        /** Of these NODES the one of which metric is least. */
        private int preferred(State state, int tree, int bits) {
            int best = NONE;
            long least = 0;
            for (int node = 0; node < plan.nodes; node++) {
                if ((bits >> node & 1) != 0) {
                    long metric = work(METRIC, state, tree, node);
                    if (metric == ERROR) {
                        metric = far[tree * NODES + node];
                    }
                    if (best < 0 || metric < least) {
                        best = node;
                        least = metric;
                    }
                }
            }
            return best;
        }

        boolean wanted(State state, int tree, int node) {
            if (calls(state, tree, node)) {
                return true;
            }
            return tree > 0 && node == plan.meeting && calls(state, 0, node);
        }

        private boolean calls(State state, int tree, int node) {
            if (state.sending[tree * NODES + node] != 0) {
                return true;
            }
            int asked = tree == 0 ? state.listening : state.listening & state.switched[tree - 1];
            return (asked >> node & 1) != 0;
        }

        /** Whether each NODE that wants a TREE and has UP finds HELD there. */
        boolean allJoined(State state) {
            for (int node = 0; node < plan.nodes; node++) {
                for (int tree = 0; tree <= plan.sources; tree++) {
                    if (wanted(state, tree, node)) {
                        int up = climb(state, tree, node);
                        int on = up < 0 ? 0 : state.sending[tree * NODES + up % LINKS];
                        if (up >= 0 && (on >> up / LINKS & 1) == 0) {
                            return false;
                        }
                    }
                }
            }
            return true;
        }

        /** A law's value for a NODE in a TREE; ERROR also if it isn't told. */
        long work(int law, State state, int tree, int node) {
            Laws laws = plan.laws;
            int height = 0;
            for (int i = laws.begin[law - METRIC]; i < laws.end[law - METRIC]; i++) {
                int kind = laws.kind[i];
                if (kind == NUMBER) {
                    stack[height++] = laws.number[i];
                } else if (kind >= FAR && kind <= TICK) {
                    stack[height++] = value(kind, state, tree, node);
                } else if (kind == NOT && height > 0) {
                    stack[height - 1] = stack[height - 1] == 0 ? 1 : 0;
                } else if (height > 1) {
                    height--;
                    long joint = join(kind, stack[height - 1], stack[height]);
                    if (joint > BIGGEST || joint < -BIGGEST) {
                        return ERROR;
                    }
                    stack[height - 1] = joint;
                }
            }
            return height == 0 ? ERROR : stack[0];
        }

        private long value(int name, State state, int tree, int node) {
            switch (name) {
                case FAR: return far[tree * NODES + node];
                case PLACE: return node;
                case HEARD: return state.heard[node];
                case TWICE: return state.twice[node];
                case HELD: return Integer.bitCount(state.sending[tree * NODES + node]);
                case TREE: return tree;
                default: return state.tick;
            }
        }

        private static long join(int sign, long a, long b) {
            switch (sign) {
                case PLUS: return a + b;
                case MINUS: return a - b;
                case TIMES: return fitsTimes(a, b) ? a * b : ERROR;
                case BY: return b == 0 ? ERROR : a / b;
                case LESS: return a < b ? 1 : 0;
                case AT_MOST: return a <= b ? 1 : 0;
                case EQUAL: return a == b ? 1 : 0;
                case UNLIKE: return a != b ? 1 : 0;
                case AT_LEAST: return a >= b ? 1 : 0;
                case MORE: return a > b ? 1 : 0;
                case AND: return a != 0 && b != 0 ? 1 : 0;
                case OR: return a != 0 || b != 0 ? 1 : 0;
                default: return ERROR;
            }
        }

        // The product itself might not fit a long, so the sides are looked at first.
        private static boolean fitsTimes(long a, long b) {
            long size = a < 0 ? -a : a;
            return size == 0 || (b < 0 ? -b : b) <= BIGGEST / size;
        }
    }

    /** TICKS and PACKETS, as they go, by numbers that are drawn, or tried otherwise. */
    private static final class Course {
        private final Net net;
        private final int[] joined = new int[TREES * NODES];
        private final int[] ownUps = new int[NODES];
        private final int[] sharedUps = new int[NODES];
        private boolean drawn = false;
        private boolean still = false;
        private int trial = NO_TRIAL;
        private int silenced = NONE;

        Course(Net over) {
            net = over;
        }

        /** As it goes; still: no EVENTS and no SENDS come. */
        void plain(boolean nothingComes) {
            drawn = false;
            still = nothingComes;
            trial = NO_TRIAL;
            silenced = NONE;
        }

        void drawing() {
            plain(false);
            drawn = true;
        }

        void otherwise(int what, int node) {
            plain(false);
            trial = what;
            silenced = what == NO_LISTENER ? node : NONE;
        }

        void run(State state, int ticks) {
            Plan plan = net.plan;
            for (int i = 0; i < ticks; i++) {
                if (!still) {
                    happen(state);
                }
                net.measure(state.cut);
                state.fade();
                Arrays.fill(joined, 0);
                for (int node = 0; node < plan.nodes; node++) {
                    for (int tree = 0; tree <= plan.sources; tree++) {
                        joinUp(state, tree, node);
                    }
                }
                for (int send = 0; send < plan.sends && !still; send++) {
                    if (plan.sendTick[send] == state.tick) {
                        packet(state, plan.sendSource[send]);
                    }
                }
                state.tick++;
            }
        }

        private void happen(State state) {
            Plan plan = net.plan;
            for (int event = 0; event < plan.events; event++) {
                if (plan.eventTick[event] == state.tick) {
                    takePlace(state, plan.eventKind[event], plan.eventWho[event]);
                }
            }
        }

        private void takePlace(State state, int kind, int who) {
            switch (kind) {
                case JOIN:
                    state.listening |= who == silenced ? 0 : 1 << who;
                    break;
                case LEAVE:
                    state.stopListening(who);
                    break;
                case CUT:
                    state.cut |= trial == NO_CUTTING ? 0 : 1 << who;
                    break;
                default:
                    state.cut &= ~(1 << who);
                    break;
            }
        }

        private void joinUp(State state, int tree, int node) {
            if (!net.wanted(state, tree, node)) {
                return;
            }
            int up = net.climb(state, tree, node);
            if (up < 0) {
                return;
            }
            int link = up / LINKS;
            int at = tree * NODES + up % LINKS;
            if ((joined[at] >> link & 1) != 0) {
                state.suppressed++;
                return;
            }
            joined[at] |= 1 << link;
            state.hold(at, link, holding(state, tree, up % LINKS));
        }

        private int holding(State state, int tree, int node) {
            if (trial == BRIEF_HOLDING) {
                return 1;
            }
            long keep = net.work(KEEP, state, tree, node);
            if (keep == ERROR) {
                return net.plan.hold;
            }
            return (int) Math.max(1, Math.min(99, keep));
        }

        /** One PACKET of a SOURCE: the LISTENERS who HEARD it. */
        int packet(State state, int source) {
            int tree = source + 1;
            int meeting = net.plan.meeting;
            for (int node = 0; node < net.plan.nodes; node++) {
                ownUps[node] = net.climb(state, tree, node);
                sharedUps[node] = net.climb(state, 0, node);
            }
            int own = down(state, tree, ownUps, 0);
            boolean there = (own >> meeting & 1) != 0;
            if (!there && net.far[tree * NODES + meeting] < NOWHERE) {
                state.registers++;
                there = true;
            }
            int shared = there ? down(state, 0, sharedUps, own & state.switched[source]) : 0;
            hear(state, own, shared);
            if (trial != NO_SWITCHING) {
                switchOver(state, source, shared);
            }
            return state.listening & (own | shared);
        }

        /** To which NODES a PACKET comes in a TREE from its ROOT on, but for those barred. */
        private int down(State state, int tree, int[] ups, int barred) {
            int came = 1 << net.plan.root(tree);
            int round = came;
            int taken = 0;
            for (int i = 0; i <= NODES && round != 0; i++) {
                int next = 0;
                for (int node = 0; node < net.plan.nodes; node++) {
                    if ((round >> node & 1) != 0) {
                        int on = state.sending[tree * NODES + node] & ~state.cut;
                        state.asserts += Integer.bitCount(on & taken);
                        next |= passOn(state, node, on & ~taken, ups) & ~came & ~barred;
                        taken |= on;
                    }
                }
                came |= next;
                round = next;
            }
            return came;
        }

        /** The NODES that would take it from this one, on those of the LINKS that don't lose it. */
        private int passOn(State state, int node, int on, int[] ups) {
            int takers = 0;
            for (int link = 0; link < net.plan.links; link++) {
                if ((on >> link & 1) != 0 && !lost(state)) {
                    for (int other = 0; other < net.plan.nodes; other++) {
                        takers |= ups[other] == link * LINKS + node ? 1 << other : 0;
                    }
                }
            }
            return takers;
        }

        private boolean lost(State state) {
            int loss = trial == NO_LOSS ? 0 : net.plan.loss;
            if (loss == 0 || loss == 100) {
                return loss == 100;
            }
            if (!drawn) {
                return loss >= 50;
            }
            state.random = state.random * 1103515245 + 12345 & Integer.MAX_VALUE;
            return state.random / 65536 % 100 < loss;
        }

        private void hear(State state, int own, int shared) {
            for (int node = 0; node < net.plan.nodes; node++) {
                if ((state.listening >> node & 1) != 0) {
                    int times = (own >> node & 1) + (shared >> node & 1);
                    state.heard[node] += times > 0 ? 1 : 0;
                    state.twice[node] += times > 1 ? 1 : 0;
                    state.missed[node] += times == 0 ? 1 : 0;
                }
            }
        }

        private void switchOver(State state, int source, int came) {
            int asked = state.listening & came & ~state.switched[source];
            for (int node = 0; node < net.plan.nodes; node++) {
                if ((asked >> node & 1) != 0 && net.work(SWITCH, state, source + 1, node) != 0) {
                    state.switched[source] |= 1 << node;
                }
            }
        }
    }

    /** NOTES and STRIKES, and what they leave of a LINK's COST. */
    private static final class Notes {
        static final int NEAR = 0;
        static final int BEYOND = 1;
        static final int STROKE = 2;
        private static final int ALL = -1;

        private final Net net;
        private final int[] kind = new int[NOTES];
        private final int[] from = new int[NOTES];
        private final int[] to = new int[NOTES];
        private final int[] limit = new int[NOTES];
        private final int[] costs = new int[LINKS];
        private final int[] table = new int[TOP_COST * NODES * NODES];
        private int tabled = NONE;
        int count = 0;
        int first = ALL;
        int askFrom = 0;
        int askTo = 0;
        int askLeft = 0;

        Notes(Net over) {
            net = over;
        }

        void restart() {
            count = 0;
            first = ALL;
            tabled = NONE;
        }

        int add(int what, int one, int other, int far) {
            if (count >= NOTES) {
                return NONE;
            }
            kind[count] = what;
            from[count] = one;
            to[count] = other;
            limit[count] = far;
            count++;
            return count - 1;
        }

        int inForce() {
            return first == ALL ? count : first;
        }

        /** Fills the table: how far all NODES are from all, for each COST this LINK may have. */
        private void tabulate(int link) {
            if (tabled == link) {
                return;
            }
            Plan plan = net.plan;
            System.arraycopy(plan.cost, 0, costs, 0, LINKS);
            for (int cost = 1; cost <= TOP_COST; cost++) {
                costs[link] = cost;
                for (int root = 0; root < plan.nodes; root++) {
                    plan.spread(costs, 0, root, table, farAt(cost, root, 0));
                }
            }
            tabled = link;
        }

        private static int farAt(int cost, int one, int other) {
            return ((cost - 1) * NODES + one) * NODES + other;
        }

        /** Those of the first NOTES that no STRIKE of them takes away, as bits. */
        private int standing() {
            int struck = 0;
            int bits = 0;
            for (int note = inForce() - 1; note >= 0; note--) {
                if ((struck >> note & 1) == 0) {
                    if (kind[note] == STROKE) {
                        struck |= 1 << from[note];
                    } else {
                        bits |= 1 << note;
                    }
                }
            }
            return bits;
        }

        int fitting(int link) {
            tabulate(link);
            int notes = standing();
            int bits = 0;
            for (int cost = 1; cost <= TOP_COST; cost++) {
                if (fits(cost, notes)) {
                    bits |= 1 << cost - 1;
                }
            }
            return bits;
        }

        private boolean fits(int cost, int notes) {
            for (int note = 0; note < count; note++) {
                if ((notes >> note & 1) != 0) {
                    boolean near = table[farAt(cost, from[note], to[note])] <= limit[note];
                    if (near != (kind[note] == NEAR)) {
                        return false;
                    }
                }
            }
            return true;
        }

        void question(int link) {
            int fitting = fitting(link);
            askLeft = NONE;
            for (int one = 0; one < net.plan.nodes; one++) {
                for (int other = one + 1; other < net.plan.nodes; other++) {
                    int left = atWorst(fitting, one, other);
                    if (askLeft < 0 || left < askLeft) {
                        askFrom = one;
                        askTo = other;
                        askLeft = left;
                    }
                }
            }
        }

        /** How many COSTS the answer to a question leaves, if it is the one that leaves most. */
        private int atWorst(int fitting, int one, int other) {
            int worst = 0;
            for (int cost = 1; cost <= TOP_COST; cost++) {
                if ((fitting >> cost - 1 & 1) != 0) {
                    int alike = 0;
                    for (int also = 1; also <= TOP_COST; also++) {
                        if ((fitting >> also - 1 & 1) != 0
                            && table[farAt(also, one, other)] == table[farAt(cost, one, other)]) {
                            alike++;
                        }
                    }
                    worst = Math.max(worst, alike);
                }
            }
            return worst;
        }
    }

    /** The TAPE, and the tokens of a TEXT on it: all are told apart first, then gone through. */
    private static final class Tokens {
        private final byte[] tape = new byte[TAPE];
        private final int[] words = new int[WORDS];
        private final int[] kinds = new int[TAPE + 1];
        private final int[] places = new int[TAPE + 1];
        private final int[] values = new int[TAPE + 1];
        private int end = 0;
        private int next = 0;
        private int at = 0;
        int size = 0;
        int kind = END;
        int place = 0;
        int value = 0;

        Tokens() {
            int word = 0;
            int packed = 0;
            int letters = 0;
            for (int i = 0; i < LANGUAGE.length() && word < WORDS; i++) {
                char sign = LANGUAGE.charAt(i);
                if (sign == ' ') {
                    words[word] = packed << 5 * (LETTERS - letters);
                    word++;
                    packed = 0;
                    letters = 0;
                } else {
                    packed = packed << 5 | sign - 'a' + 1;
                    letters++;
                }
            }
        }

        void append(int four) {
            for (int shift = 24; shift >= 0 && size < TAPE; shift -= 8) {
                tape[size] = (byte) (four >> shift);
                size++;
            }
        }

        /** Tells the tokens of the first bytes apart, and goes to the first one. */
        void begin(int length) {
            end = Math.min(length, size);
            next = 0;
            kind = BAD;
            for (int count = 0; count <= TAPE && kind != END; count++) {
                scan();
                kinds[count] = kind;
                places[count] = place;
                values[count] = value;
            }
            at = NONE;
            step();
        }

        /** Goes to the next token, END being the last; always true, to stand among conditions. */
        boolean step() {
            if (at < TAPE && kind != END || at < 0) {
                at++;
            }
            kind = kinds[at];
            place = places[at];
            value = values[at];
            return true;
        }

        private void scan() {
            while (next < end && (tape[next] == ' ' || tape[next] == '\n')) {
                next++;
            }
            place = next;
            if (next >= end) {
                kind = END;
            } else if (isLetter(tape[next])) {
                word();
            } else if (isDigit(tape[next])) {
                number();
            } else {
                kind = sign(tape[next]);
                next++;
                lengthen();
            }
        }

        private static boolean isLetter(byte sign) {
            return sign >= 'a' && sign <= 'z';
        }

        private static boolean isDigit(byte sign) {
            return sign >= '0' && sign <= '9';
        }

        private void word() {
            value = 0;
            int letters = 0;
            while (next < end && isLetter(tape[next])) {
                value = value << 5 | tape[next] - 'a' + 1;
                letters++;
                next++;
            }
            if (letters > LETTERS) {
                kind = BAD;
                return;
            }
            value <<= 5 * (LETTERS - letters);
            int word = find(words, WORDS, value);
            kind = word < 0 ? NAME : word;
        }

        private void number() {
            kind = NUMBER;
            value = 0;
            while (next < end && isDigit(tape[next])) {
                value = Math.min(value * 10 + tape[next] - '0', BIG_NUMBER);
                next++;
            }
        }

        private static int sign(byte sign) {
            switch (sign) {
                case ';': return STOP;
                case '(': return OPEN;
                case ')': return CLOSE;
                case '+': return PLUS;
                case '-': return MINUS;
                case '*': return TIMES;
                case '/': return BY;
                case '<': return LESS;
                case '=': return EQUAL;
                case '>': return MORE;
                default: return BAD;
            }
        }

        private void lengthen() {
            if (next >= end || kind != LESS && kind != MORE) {
                return;
            }
            if (tape[next] == '=') {
                kind = kind == LESS ? AT_MOST : AT_LEAST;
                next++;
            } else if (tape[next] == '>' && kind == LESS) {
                kind = UNLIKE;
                next++;
            }
        }
    }

    /** Reads the LINES of a TEXT into a Plan, as far as the first FAULT. */
    private static final class Reader {
        private final Tokens tokens;
        private final int[] pending = new int[KNOTS + OPEN_AT_ONCE];
        private final int[] ranks = new int[KNOTS + OPEN_AT_ONCE];
        private Plan plan;
        private int height = 0;
        private int told = 0;
        private int found = 0;
        int lines = 0;
        int fault = 0;
        int place = NONE;

        Reader(Tokens from, Plan into) {
            tokens = from;
            plan = into;
        }

        boolean read(Plan into, int length) {
            plan = into;
            plan.clear();
            told = 0;
            fault = 0;
            place = NONE;
            tokens.begin(length);
            boolean sound = true;
            for (lines = 0; lines <= TAPE && sound && tokens.kind != END; lines++) {
                switch (tokens.kind) {
                    case NODE: sound = nodeLine(); break;
                    case LINK: sound = linkLine(); break;
                    case MEET: sound = meetLine(); break;
                    case SOURCE: sound = sourceLine(); break;
                    case JOIN:
                    case LEAVE:
                    case CUT:
                    case MEND: sound = eventLine(); break;
                    case SEND: sound = sendLine(); break;
                    case HOLD:
                    case LOSS:
                    case SEED: sound = numberLine(); break;
                    case LAW: sound = lawLine(); break;
                    default: sound = fail(MISPLACED); break;
                }
                sound = sound && stops();
            }
            return sound;
        }

        private boolean fail(int what) {
            fault = what;
            place = tokens.place;
            return false;
        }

        private boolean stops() {
            return tokens.kind == STOP ? tokens.step() : fail(MISPLACED);
        }

        /** At the word of a LINE of which there may be only so many. */
        private boolean room(int count, int most) {
            return count < most ? tokens.step() : fail(TOO_MUCH);
        }

        /** At a word that may stand once. */
        private boolean once() {
            if ((told >> tokens.kind & 1) != 0) {
                return fail(TOLD_ALREADY);
            }
            told |= 1 << tokens.kind;
            return tokens.step();
        }

        private boolean number(int least, int most) {
            if (tokens.kind != NUMBER) {
                return fail(MISPLACED);
            }
            if (tokens.value < least || tokens.value > most) {
                return fail(TOO_MUCH);
            }
            found = tokens.value;
            return tokens.step();
        }

        private boolean newName(int[] names, int count) {
            if (tokens.kind != NAME) {
                return fail(MISPLACED);
            }
            if (find(names, count, tokens.value) >= 0) {
                return fail(TOLD_ALREADY);
            }
            if (count < names.length) {
                names[count] = tokens.value;
            }
            return tokens.step();
        }

        private boolean oldName(int[] names, int count) {
            if (tokens.kind != NAME) {
                return fail(MISPLACED);
            }
            found = find(names, count, tokens.value);
            return found < 0 ? fail(UNTOLD) : tokens.step();
        }

        private boolean nodeLine() {
            if (!room(plan.nodes, NODES) || !newName(plan.nodeName, plan.nodes)) {
                return false;
            }
            plan.nodes++;
            return true;
        }

        private boolean linkLine() {
            if (!room(plan.links, LINKS) || !number(1, TOP_COST)) {
                return false;
            }
            int cost = found;
            int on = 0;
            for (int count = 0; count <= 4 && (count < 2 || tokens.kind == NAME); count++) {
                if (!member(on, count)) {
                    return false;
                }
                on |= 1 << found;
            }
            plan.cost[plan.links] = cost;
            plan.members[plan.links] = on;
            plan.links++;
            return true;
        }

        private boolean member(int on, int count) {
            if (tokens.kind != NAME) {
                return fail(MISPLACED);
            }
            if (count >= 4) {
                return fail(TOO_MUCH);
            }
            found = find(plan.nodeName, plan.nodes, tokens.value);
            if (found < 0) {
                return fail(UNTOLD);
            }
            return (on >> found & 1) != 0 ? fail(TOLD_ALREADY) : tokens.step();
        }

        private boolean meetLine() {
            if (!once() || !oldName(plan.nodeName, plan.nodes)) {
                return false;
            }
            plan.meeting = found;
            return true;
        }

        private boolean sourceLine() {
            if (!room(plan.sources, SOURCES) || !newName(plan.sourceName, plan.sources)
                || !oldName(plan.nodeName, plan.nodes)) {
                return false;
            }
            plan.sourceNode[plan.sources] = found;
            plan.sources++;
            return true;
        }

        private boolean eventLine() {
            int kind = tokens.kind;
            if (!room(plan.events, EVENTS)) {
                return false;
            }
            boolean ofNode = kind == JOIN || kind == LEAVE;
            if (ofNode ? !oldName(plan.nodeName, plan.nodes) : !oldLink()) {
                return false;
            }
            int who = found;
            if (!number(0, 99)) {
                return false;
            }
            plan.eventKind[plan.events] = kind;
            plan.eventWho[plan.events] = who;
            plan.eventTick[plan.events] = found;
            plan.events++;
            return true;
        }

        private boolean oldLink() {
            if (tokens.kind == NUMBER && tokens.value < LINKS && tokens.value >= plan.links) {
                return fail(UNTOLD);
            }
            return number(0, LINKS - 1);
        }

        private boolean sendLine() {
            if (!room(plan.sends, SENDS) || !oldName(plan.sourceName, plan.sources)) {
                return false;
            }
            int source = found;
            if (!number(0, 99)) {
                return false;
            }
            plan.sendSource[plan.sends] = source;
            plan.sendTick[plan.sends] = found;
            plan.sends++;
            return true;
        }

        private boolean numberLine() {
            int kind = tokens.kind;
            int most = kind == HOLD ? 20 : kind == LOSS ? 100 : 99999;
            if (!once() || !number(kind == HOLD ? 1 : 0, most)) {
                return false;
            }
            switch (kind) {
                case HOLD:
                    plan.hold = found;
                    break;
                case LOSS:
                    plan.loss = found;
                    break;
                default:
                    plan.seed = found;
                    break;
            }
            return true;
        }

        private boolean lawLine() {
            tokens.step();
            int law = tokens.kind - METRIC;
            if (law < 0 || law >= LAWS) {
                return fail(MISPLACED);
            }
            if (!once()) {
                return false;
            }
            plan.laws.begin[law] = plan.laws.size;
            if (!formula()) {
                return false;
            }
            plan.laws.end[law] = plan.laws.size;
            return true;
        }

        /** An E: signs wait in a row until what binds closer is behind them. */
        private boolean formula() {
            height = 0;
            int open = 0;
            boolean sideDue = true;
            for (int i = 0; i <= TAPE; i++) {
                int kind = tokens.kind;
                if (sideDue) {
                    if (kind == OPEN && open == OPEN_AT_ONCE) {
                        return fail(TOO_MUCH);
                    }
                    if (!side()) {
                        return false;
                    }
                    open += kind == OPEN ? 1 : 0;
                    sideDue = kind == OPEN || kind == NOT;
                } else if (kind == CLOSE && open > 0) {
                    release(1);
                    height--;
                    open--;
                    tokens.step();
                } else if (kind == STOP && open == 0) {
                    release(1);
                    return true;
                } else if (sign()) {
                    sideDue = true;
                } else {
                    return false;
                }
            }
            return fail(TOO_MUCH);
        }

        /** What may stand where a side of a sign is due. */
        private boolean side() {
            int kind = tokens.kind;
            if (kind == OPEN) {
                return push(OPEN);
            }
            if (kind == NOT) {
                return topRank() < COMPARING ? knot() && push(NOT) : fail(MISPLACED);
            }
            if (kind != NUMBER && (kind < FAR || kind > TICK)) {
                return fail(MISPLACED);
            }
            if (kind == NUMBER && tokens.value > 9999 || !knot()) {
                return fail(TOO_MUCH);
            }
            plan.laws.emit(kind, tokens.value);
            return tokens.step();
        }

        /** A sign between two sides; a comparison beside a comparison can't stand. */
        private boolean sign() {
            int rank = rank(tokens.kind);
            if (rank == 0 || tokens.kind == NOT) {
                return fail(MISPLACED);
            }
            release(rank == COMPARING ? rank + 1 : rank);
            if (rank == COMPARING && topRank() == COMPARING) {
                return fail(MISPLACED);
            }
            return knot() && push(tokens.kind);
        }

        private boolean knot() {
            if (plan.laws.knots >= KNOTS) {
                return fail(TOO_MUCH);
            }
            plan.laws.knots++;
            return true;
        }

        private boolean push(int kind) {
            if (height >= pending.length) {
                return fail(TOO_MUCH);
            }
            pending[height] = kind;
            ranks[height] = rank(kind);
            height++;
            return tokens.step();
        }

        /** Writes out the pending signs, down to one that binds less than this rank. */
        private void release(int rank) {
            while (height > 0 && ranks[height - 1] >= rank) {
                height--;
                plan.laws.emit(pending[height], 0);
            }
        }

        private int topRank() {
            return height == 0 ? 0 : ranks[height - 1];
        }

        private static int rank(int kind) {
            switch (kind) {
                case OR: return 1;
                case AND: return 2;
                case NOT: return 3;
                case LESS:
                case AT_MOST:
                case EQUAL:
                case UNLIKE:
                case AT_LEAST:
                case MORE: return COMPARING;
                case PLUS:
                case MINUS: return 5;
                case TIMES:
                case BY: return 6;
                default: return 0;
            }
        }
    }
}
