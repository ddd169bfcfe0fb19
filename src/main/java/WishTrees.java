/** Wills of creatures as trees of wishes that are asked each tick. README.md tells how to use it. */
public final class WishTrees {
    public static final int BAD = -1, STATE = -2, FULL = -3, NONE = -4;

    private static final int MOST_DOINGS = 10, MOST_TREES = 8, MOST_NODES = 30, MOST_CREATURES = 6;
    private static final int MOST_PARTS = 6, MOST_AGAIN = 50, MOST_TOLD = 40, MOST_TURNS = 50;
    private static final int MOST_TICKS = 20, MOST_COST = 100;
    private static final int CELLS = 12, ROW_PLACES = 6, ALL_FACTS = 255, FACT_STATES = 256, FACT_NUMBERS = 8;
    private static final int PLAN_PLACES = 12;

    /** What a NODE answers. */
    private static final int DONE = 1, FAILED = 2, UNDER_WAY = 3;

    /** Kinds of NODES. */
    private static final int DOING = 0, TEST = 1, ROW = 2, ELSE = 3, BESIDE = 4, GUARD = 5, AGAIN = 6,
            MEMO = 7, NOT = 8, PLAN = 9;

    /** What a CELL has. */
    private static final int NOTHING = 0, NUMBER = 1, FLAG = 2, NUMBERS = 3;

    /** Sorts of TESTS. */
    private static final int IS_ABOVE = 0, IS_EQUAL = 1, IS_ON = 2, IS_ABOVE_AT = 3, IS_FACT = 4;

    /** FINDINGS; as answers they stand below FINDING_BASE. */
    private static final int NO_FINDING = 0, HAS_NOTHING = 1, NO_PLACE = 2, HAS_OTHER = 3, LESS_THAN_NO_PLACE = 4;
    private static final int FINDING_BASE = -10;

    /** Places in a CREATURE's counts, as count tells them. */
    private static final int TICKS = 0, DOINGS_DONE = 1, BROKEN_OFF = 2, DOINGS_FAILED = 3, FINDINGS = 4,
            FINDING_SORT = 5, FINDING_NODE = 6, PLANS_MADE = 7, TREE_NUMBER = 8, COUNTS = 9;

    private final Mind mind = new Mind();
    private final Tree[] trees = new Tree[MOST_TREES];
    private final Creature[] creatures = new Creature[MOST_CREATURES];
    private int treeCount;
    private int creatureCount;
    /** The TREE that is begun, in the slot behind the whole ones; null: none is begun. */
    private Tree begun;

    public WishTrees() {
    }

    public int doing(int ticks, int cost) {
        if (ticks < 1 || ticks > MOST_TICKS || cost < 0 || cost > MOST_COST) {
            return BAD;
        }
        if (mind.doings.known >= MOST_DOINGS) {
            return FULL;
        }
        return mind.doings.learn(ticks, cost);
    }

    public int facts(int d, boolean makes, int mask, int bits) {
        if (!mind.doings.knows(d) || !areFacts(mask) || !areFacts(bits)) {
            return BAD;
        }
        if (someHasTree()) {
            return STATE;
        }
        if (makes) {
            mind.doings.setMakes(d, mask, bits);
        } else {
            mind.doings.setNeeds(d, mask, bits);
        }
        return 1;
    }

    public int effect(int d, int cell, int gain, int finish) {
        if (!mind.doings.knows(d) || cell != NONE && !isCell(cell)) {
            return BAD;
        }
        if (someHasTree()) {
            return STATE;
        }
        mind.doings.setEffect(d, cell, gain, finish);
        return 1;
    }

    public int tree() {
        if (begun != null) {
            return STATE;
        }
        if (treeCount >= MOST_TREES) {
            return FULL;
        }
        if (trees[treeCount] == null) {
            trees[treeCount] = new Tree();
        }
        begun = trees[treeCount];
        begun.begin();
        return treeCount;
    }

    public int node(int kind, int a, int b, int c) {
        if (!isNode(kind, a, b, c)) {
            return BAD;
        }
        if (begun == null) {
            return STATE;
        }
        if (!begun.hasRoomFor(partsOf(kind, a))) {
            return FULL;
        }
        begun.add(kind, a, b, c);
        int missing = begun.missing;
        if (missing == 0) {
            begun.measure();
            begun = null;
            treeCount++;
        }
        return missing;
    }

    public int forget() {
        if (begun == null) {
            return STATE;
        }
        int nodes = begun.nodes;
        begun = null;
        return nodes;
    }

    public int creature() {
        if (creatureCount >= MOST_CREATURES) {
            return FULL;
        }
        creatures[creatureCount] = new Creature();
        creatureCount++;
        return creatureCount - 1;
    }

    public int give(int creature, int tree) {
        Creature who = creatureAt(creature);
        Tree whole = wholeTree(tree);
        if (who == null || tree != NONE && whole == null) {
            return BAD;
        }
        int brokenOff = mind.breakOffAll(who);
        who.takeTree(whole, tree);
        return brokenOff;
    }

    public int ask(int creature) {
        Creature who = creatureAt(creature);
        if (who == null) {
            return BAD;
        }
        return mind.live(who);
    }

    public int ticks(int n) {
        if (n < 0 || n > MOST_TURNS) {
            return BAD;
        }
        int lived = 0;
        for (int turn = 0; turn < n; turn++) {
            for (int i = 0; i < creatureCount; i++) {
                lived += mind.live(creatures[i]) == STATE ? 0 : 1;
            }
        }
        return lived;
    }

    public int world(int bits) {
        if (!areFacts(bits)) {
            return BAD;
        }
        int before = mind.world.facts;
        mind.world.facts = bits;
        return before;
    }

    public int cell(int k, int sort, long v) {
        if (!isCell(k) || sort < NOTHING || sort > NUMBERS || sort == NUMBERS && v > ROW_PLACES) {
            return BAD;
        }
        if (sort == NUMBERS && v < 0) {
            return FINDING_BASE - LESS_THAN_NO_PLACE;
        }
        mind.world.put(k, sort, v);
        return 1;
    }

    public int row(int k, int i, int v) {
        if (!isCell(k)) {
            return BAD;
        }
        int finding = mind.world.findingOf(k, NUMBERS, i);
        if (finding != NO_FINDING) {
            return FINDING_BASE - finding;
        }
        mind.world.putAt(k, i, v);
        return 1;
    }

    public long has(int k, int what) {
        if (what == 1) {
            return isCell(k) ? mind.world.numbers[k] : 0;
        }
        return what == 0 && isCell(k) ? mind.world.sorts[k] : BAD;
    }

    public int told(int creature, int node, int what) {
        Creature who = creatureAt(creature);
        if (who == null || !who.hasNode(node)) {
            return BAD;
        }
        switch (what) {
            case 0:
                return who.latest[node];
            case 1:
                return who.times[node];
            case 2:
                return who.left[node];
            case 3:
                return who.progressOf(node);
            default:
                return BAD;
        }
    }

    public int asked(int i, int what) {
        AskLog log = mind.log;
        if (i < 0 || i >= log.kept()) {
            return BAD;
        }
        switch (what) {
            case 0:
                return log.nodes[i];
            case 1:
                return log.answers[i];
            default:
                return BAD;
        }
    }

    public int plan(int creature, int node, int i) {
        Creature who = creatureAt(creature);
        if (who == null || !who.hasNode(node) || who.tree.kinds[node] != PLAN) {
            return BAD;
        }
        return who.plannedAt(node, i);
    }

    public int count(int creature, int what) {
        Creature who = creatureAt(creature);
        if (who == null || what < 0 || what >= COUNTS) {
            return BAD;
        }
        return who.counts[what];
    }

    public int all(int what) {
        switch (what) {
            case 0:
                return mind.doings.known;
            case 1:
                return treeCount;
            case 2:
                return creatureCount;
            case 3:
                return mind.world.facts;
            case 4:
                return begun == null ? NONE : begun.nodes;
            case 5:
                return mind.log.askings;
            default:
                return BAD;
        }
    }

    public int part(int tree, int n, int what) {
        Tree whole = wholeTree(tree);
        if (whole == null || n < 0 || n >= whole.nodes) {
            return BAD;
        }
        switch (what) {
            case 0:
                return whole.kinds[n];
            case 1:
                return whole.as[n];
            case 2:
                return whole.bs[n];
            case 3:
                return whole.cs[n];
            case 4:
                return whole.parents[n];
            case 5:
                return whole.sizes[n];
            default:
                return BAD;
        }
    }

    private boolean someHasTree() {
        for (int i = 0; i < creatureCount; i++) {
            if (creatures[i].tree != null) {
                return true;
            }
        }
        return false;
    }

    private Creature creatureAt(int number) {
        return number >= 0 && number < creatureCount ? creatures[number] : null;
    }

    private Tree wholeTree(int number) {
        return number >= 0 && number < treeCount ? trees[number] : null;
    }

    private boolean isNode(int kind, int a, int b, int c) {
        switch (kind) {
            case DOING:
                return mind.doings.knows(a) && b == 0 && c == 0;
            case TEST:
            case GUARD:
                return isTest(a, b, c);
            case ROW:
            case ELSE:
            case MEMO:
                return a >= 1 && a <= MOST_PARTS && b == 0 && c == 0;
            case BESIDE:
                return a >= 1 && a <= MOST_PARTS && b >= 1 && b <= a && c == 0;
            case AGAIN:
                return a >= 1 && a <= MOST_AGAIN && b == 0 && c == 0;
            case NOT:
                return a == 0 && b == 0 && c == 0;
            case PLAN:
                return a != 0 && areFacts(a) && areFacts(b) && c == 0;
            default:
                return false;
        }
    }

    private static boolean isTest(int sort, int cell, int n) {
        if (sort == IS_FACT) {
            return cell == 0 && n >= 0 && n < FACT_NUMBERS;
        }
        return sort >= IS_ABOVE && sort <= IS_ABOVE_AT && isCell(cell);
    }

    private static int partsOf(int kind, int a) {
        switch (kind) {
            case ROW:
            case ELSE:
            case BESIDE:
            case MEMO:
                return a;
            case GUARD:
            case AGAIN:
            case NOT:
                return 1;
            default:
                return 0;
        }
    }

    private static boolean isCell(int k) {
        return k >= 0 && k < CELLS;
    }

    private static boolean areFacts(int bits) {
        return bits >= 0 && bits <= ALL_FACTS;
    }

    private static boolean fits(int facts, int mask, int bits) {
        return ((facts ^ bits) & mask) == 0;
    }

    /** FACTS and CELLS. */
    private static final class World {
        int facts;
        final int[] sorts = new int[CELLS];
        /** A NUMBER, a FLAG as 1 or 0, how long a ROW is: what has(k, 1) tells. */
        final long[] numbers = new long[CELLS];
        final int[] places = new int[CELLS * ROW_PLACES];

        void put(int k, int sort, long v) {
            sorts[k] = sort;
            switch (sort) {
                case NUMBER:
                    numbers[k] = v;
                    break;
                case FLAG:
                    numbers[k] = v != 0 ? 1 : 0;
                    break;
                case NUMBERS:
                    numbers[k] = v;
                    clearPlaces(k);
                    break;
                default:
                    numbers[k] = 0;
                    break;
            }
        }

        private void clearPlaces(int k) {
            for (int i = 0; i < ROW_PLACES; i++) {
                places[k * ROW_PLACES + i] = 0;
            }
        }

        void putAt(int k, int i, int v) {
            places[k * ROW_PLACES + i] = v;
        }

        int findingOf(int k, int sort, int place) {
            if (sorts[k] == NOTHING) {
                return HAS_NOTHING;
            }
            if (sorts[k] != sort) {
                return HAS_OTHER;
            }
            return sort == NUMBERS && (place < 0 || place >= numbers[k]) ? NO_PLACE : NO_FINDING;
        }

        void bring(int k, int more) {
            if (!isCell(k)) {
                return;
            }
            if (sorts[k] == NOTHING) {
                sorts[k] = NUMBER;
                numbers[k] = more;
            } else if (sorts[k] == NUMBER) {
                numbers[k] += more;
            }
        }

        /** Asks a CELL in which the TEST makes no FINDING. */
        boolean holds(int sort, int k, int n) {
            switch (sort) {
                case IS_ABOVE:
                    return numbers[k] > n;
                case IS_EQUAL:
                    return numbers[k] == n;
                case IS_ON:
                    return numbers[k] != 0;
                default:
                    return places[k * ROW_PLACES + n] > 0;
            }
        }
    }

    private static final class Doings {
        int known;
        final int[] lengths = new int[MOST_DOINGS];
        final int[] costs = new int[MOST_DOINGS];
        final int[] needMasks = new int[MOST_DOINGS];
        final int[] needBits = new int[MOST_DOINGS];
        final int[] makeMasks = new int[MOST_DOINGS];
        final int[] makeBits = new int[MOST_DOINGS];
        final int[] cells = new int[MOST_DOINGS];
        final int[] gains = new int[MOST_DOINGS];
        final int[] finishes = new int[MOST_DOINGS];

        boolean knows(int d) {
            return d >= 0 && d < known;
        }

        int learn(int length, int cost) {
            lengths[known] = length;
            costs[known] = cost;
            cells[known] = NONE;
            known++;
            return known - 1;
        }

        void setNeeds(int d, int mask, int bits) {
            needMasks[d] = mask;
            needBits[d] = bits;
        }

        void setMakes(int d, int mask, int bits) {
            makeMasks[d] = mask;
            makeBits[d] = bits;
        }

        void setEffect(int d, int cell, int gain, int finish) {
            cells[d] = cell;
            gains[d] = gain;
            finishes[d] = finish;
        }

        int factsBehind(int d, int facts) {
            return facts & ~makeMasks[d] | makeBits[d] & makeMasks[d];
        }

        boolean needsHold(int d, int facts) {
            return ((facts ^ needBits[d]) & needMasks[d]) == 0;
        }
    }

    private static final class Tree {
        int nodes;
        /** How many NODES must come at least until the TREE is whole. */
        int missing;
        final int[] kinds = new int[MOST_NODES];
        final int[] as = new int[MOST_NODES];
        final int[] bs = new int[MOST_NODES];
        final int[] cs = new int[MOST_NODES];
        final int[] parents = new int[MOST_NODES];
        final int[] sizes = new int[MOST_NODES];
        final int[] partsToCome = new int[MOST_NODES];

        void begin() {
            nodes = 0;
            missing = 1;
        }

        boolean hasRoomFor(int parts) {
            return nodes + missing + parts <= MOST_NODES;
        }

        void add(int kind, int a, int b, int c) {
            int parent = openNode();
            if (parent != NONE) {
                partsToCome[parent]--;
            }
            kinds[nodes] = kind;
            as[nodes] = a;
            bs[nodes] = b;
            cs[nodes] = c;
            parents[nodes] = parent;
            partsToCome[nodes] = partsOf(kind, a);
            missing += partsToCome[nodes] - 1;
            nodes++;
        }

        /** The latest NODE that lacks PARTS: each PART comes with all of its own before the next one. */
        private int openNode() {
            for (int n = nodes - 1; n >= 0; n--) {
                if (partsToCome[n] > 0) {
                    return n;
                }
            }
            return NONE;
        }

        void measure() {
            for (int n = 0; n < nodes; n++) {
                sizes[n] = 1;
            }
            for (int n = nodes - 1; n >= 0; n--) {
                if (parents[n] != NONE) {
                    sizes[parents[n]] += sizes[n];
                }
            }
        }
    }

    /** A CREATURE's TREE with what each NODE of it remembers. */
    private static final class Creature {
        Tree tree;
        final int[] latest = new int[MOST_NODES];
        final int[] times = new int[MOST_NODES];
        /** TICKS left of the NODE's DOING; 0: it is not under way. */
        final int[] left = new int[MOST_NODES];
        /** How often an AGAIN's PART was DONE, the PART of a MEMO, the place in a PLAN's plan. */
        final int[] progress = new int[MOST_NODES];
        /** How long a PLAN's plan is; 0: it has none. */
        final int[] planLengths = new int[MOST_NODES];
        final int[] planned = new int[MOST_NODES * PLAN_PLACES];
        final int[] foretold = new int[MOST_NODES];
        final boolean[] askedNow = new boolean[MOST_NODES];
        final int[] counts = new int[COUNTS];

        Creature() {
            counts[FINDING_NODE] = NONE;
            counts[TREE_NUMBER] = NONE;
        }

        void takeTree(Tree whole, int number) {
            tree = whole;
            counts[TREE_NUMBER] = number;
            for (int n = 0; n < MOST_NODES; n++) {
                latest[n] = 0;
                times[n] = 0;
                left[n] = 0;
                progress[n] = 0;
                planLengths[n] = 0;
            }
        }

        boolean hasNode(int node) {
            return tree != null && node >= 0 && node < tree.nodes;
        }

        void startTick() {
            counts[TICKS]++;
            for (int n = 0; n < MOST_NODES; n++) {
                askedNow[n] = false;
            }
        }

        void noteAnswer(int node, int answer) {
            latest[node] = answer;
            times[node]++;
            askedNow[node] = true;
        }

        void noteFinding(int node, int finding) {
            counts[FINDINGS]++;
            counts[FINDING_SORT] = finding;
            counts[FINDING_NODE] = node;
        }

        void dropPlan(int node) {
            planLengths[node] = 0;
            progress[node] = 0;
        }

        /** Takes what the planner found; a length of 0 is no plan. */
        void takePlan(int node, Planner planner, int facts) {
            for (int i = 0; i < planner.length; i++) {
                planned[node * PLAN_PLACES + i] = planner.found[i];
            }
            planLengths[node] = planner.length;
            progress[node] = 0;
            foretold[node] = facts;
            counts[PLANS_MADE] += planner.length > 0 ? 1 : 0;
        }

        int plannedAt(int node, int i) {
            return i >= 0 && i < planLengths[node] ? planned[node * PLAN_PLACES + i] : NONE;
        }

        int progressOf(int node) {
            return tree.kinds[node] == PLAN && planLengths[node] == 0 ? NONE : progress[node];
        }

        /** The DOING that a DOING or a PLAN is at; NONE: there is none. */
        int doingOf(int node) {
            return tree.kinds[node] == DOING ? tree.as[node] : plannedAt(node, progress[node]);
        }

        /** Whether the NODE is a BESIDE that answered DONE or FAILED in this TICK. */
        boolean isEndedBeside(int node) {
            return tree.kinds[node] == BESIDE && askedNow[node] && latest[node] != UNDER_WAY;
        }
    }

    /** The askings of the latest TICK. */
    private static final class AskLog {
        int askings;
        final int[] nodes = new int[MOST_TOLD];
        final int[] answers = new int[MOST_TOLD];

        void add(int node, int answer) {
            if (askings < MOST_TOLD) {
                nodes[askings] = node;
                answers[askings] = answer;
            }
            askings++;
        }

        int kept() {
            return askings < MOST_TOLD ? askings : MOST_TOLD;
        }
    }

    /** Finds the best row of DOINGS for a wish, backward from the wish over the FACTS that can come. */
    private static final class Planner {
        /** A value is a sum of COSTS times this, plus how many DOINGS: so that less is better. */
        private static final int COST_UNIT = 16;
        private static final int NO_WAY = 1 << 20;

        final int[] found = new int[PLAN_PLACES];
        int length;
        private int wishMask;
        private int wishBits;
        /** What one more DOING adds to a value. */
        private final int[] steps = new int[MOST_DOINGS];
        private int stepCount;
        private final int[] reached = new int[FACT_STATES];
        private int reachedCount;
        /** The number of the search that reached these FACTS latest, so that none has to clear it. */
        private final int[] reachedBy = new int[FACT_STATES];
        private int searches;
        /** At facts * MOST_DOINGS + doing: the FACTS behind it; NONE: its NEEDS do not hold. */
        private final int[] behind = new int[FACT_STATES * MOST_DOINGS];
        /** At turns * FACT_STATES + facts: the best value of a row of so many DOINGS at most. */
        private final int[] values = new int[(PLAN_PLACES + 1) * FACT_STATES];

        /** The plan stands in found then; its length is 0 if there is none. FACTS have not the wish yet. */
        void search(Doings doings, int facts, int mask, int bits) {
            wishMask = mask;
            wishBits = bits;
            takeSteps(doings);
            reachAll(doings, facts);
            int turns = valueAll();
            length = 0;
            if (values[turns * FACT_STATES + facts] < NO_WAY) {
                walk(facts, turns);
            }
        }

        private void takeSteps(Doings doings) {
            stepCount = doings.known;
            for (int d = 0; d < stepCount; d++) {
                steps[d] = doings.costs[d] * COST_UNIT + 1;
            }
        }

        private void reachAll(Doings doings, int from) {
            searches++;
            reachedCount = 0;
            reach(from);
            for (int i = 0; i < reachedCount && i < FACT_STATES; i++) {
                int facts = reached[i];
                for (int d = 0; d < stepCount && !fits(facts, wishMask, wishBits); d++) {
                    int next = doings.needsHold(d, facts) ? doings.factsBehind(d, facts) : NONE;
                    behind[facts * MOST_DOINGS + d] = next;
                    reach(next);
                }
            }
        }

        private void reach(int facts) {
            if (facts != NONE && reachedBy[facts] != searches && reachedCount < FACT_STATES) {
                reachedBy[facts] = searches;
                reached[reachedCount] = facts;
                reachedCount++;
            }
        }

        /** For how many turns the values were worked out: more turns would make none better. */
        private int valueAll() {
            for (int i = 0; i < reachedCount; i++) {
                values[reached[i]] = fits(reached[i], wishMask, wishBits) ? 0 : NO_WAY;
            }
            int turns = 0;
            boolean better = true;
            while (better && turns < PLAN_PLACES) {
                turns++;
                better = false;
                for (int i = 0; i < reachedCount; i++) {
                    better = valueOne(reached[i], turns * FACT_STATES) || better;
                }
            }
            return turns;
        }

        /** Whether the turn that stands at here made the value of these FACTS better. */
        private boolean valueOne(int facts, int here) {
            int before = here - FACT_STATES;
            int old = values[before + facts];
            int best = old == 0 ? 0 : NO_WAY;
            for (int d = 0; d < stepCount && old != 0; d++) {
                int next = behind[facts * MOST_DOINGS + d];
                if (next != NONE && steps[d] + values[before + next] < best) {
                    best = steps[d] + values[before + next];
                }
            }
            values[here + facts] = best;
            return best != old;
        }

        private void walk(int from, int turns) {
            int facts = from;
            for (int turn = turns; turn > 0 && values[turn * FACT_STATES + facts] != 0; turn--) {
                int d = firstBest(facts, turn * FACT_STATES);
                if (d == NONE) {
                    return;
                }
                found[length] = d;
                length++;
                facts = behind[facts * MOST_DOINGS + d];
            }
        }

        private int firstBest(int facts, int here) {
            int before = here - FACT_STATES;
            for (int d = 0; d < stepCount; d++) {
                int next = behind[facts * MOST_DOINGS + d];
                if (next != NONE && steps[d] + values[before + next] == values[here + facts]) {
                    return d;
                }
            }
            return NONE;
        }
    }

    /** Asks the TREES of CREATURES in the one world that all share. */
    private static final class Mind {
        final World world = new World();
        final Doings doings = new Doings();
        final AskLog log = new AskLog();
        /** Made with the first plan: it is large, and many worlds have no PLANS. */
        private Planner planner;
        private final boolean[] withinEnded = new boolean[MOST_NODES];

        /** A TICK: what the first NODE answered; STATE without a TREE. */
        int live(Creature who) {
            if (who.tree == null) {
                return STATE;
            }
            log.askings = 0;
            who.startTick();
            int answer = askNode(who, 0, 0);
            settleAll(who);
            return answer;
        }

        /** How many DOINGS were under way. */
        int breakOffAll(Creature who) {
            int brokenOff = 0;
            int nodes = who.tree == null ? 0 : who.tree.nodes;
            for (int n = 0; n < nodes; n++) {
                if (who.left[n] > 0) {
                    breakOff(who, n);
                    brokenOff++;
                }
            }
            return brokenOff;
        }

        private int askNode(Creature who, int node, int depth) {
            if (depth >= MOST_NODES || !who.hasNode(node)) {
                return FAILED;
            }
            int answer = answerOf(who, node, depth);
            who.noteAnswer(node, answer);
            log.add(node, answer);
            return answer;
        }

        private int answerOf(Creature who, int node, int depth) {
            switch (who.tree.kinds[node]) {
                case DOING:
                    return askDoing(who, node, who.doingOf(node));
                case TEST:
                    return testHolds(who, node) ? DONE : FAILED;
                case ROW:
                case MEMO:
                    return askInTurn(who, node, depth, DONE);
                case ELSE:
                    return askInTurn(who, node, depth, FAILED);
                case BESIDE:
                    return askBeside(who, node, depth);
                case GUARD:
                    return testHolds(who, node) ? askNode(who, node + 1, depth + 1) : FAILED;
                case AGAIN:
                    return askAgain(who, node, depth);
                case NOT:
                    return opposite(askNode(who, node + 1, depth + 1));
                default:
                    return askPlan(who, node);
            }
        }

        /** Asks PARTS as long as each answers goesOn; a MEMO's from the one that was under way. */
        private int askInTurn(Creature who, int node, int depth, int goesOn) {
            Tree tree = who.tree;
            boolean remembers = tree.kinds[node] == MEMO;
            int first = remembers ? who.progress[node] : 0;
            int answer = goesOn;
            int next = node + 1;
            for (int i = 0; i < tree.as[node] && answer == goesOn && next < tree.nodes; i++) {
                if (i >= first) {
                    answer = askNode(who, next, depth + 1);
                }
                if (remembers && answer == UNDER_WAY) {
                    who.progress[node] = i;
                }
                next += tree.sizes[next];
            }
            return answer;
        }

        private int askBeside(Creature who, int node, int depth) {
            Tree tree = who.tree;
            int done = 0;
            int underWay = 0;
            int next = node + 1;
            for (int i = 0; i < tree.as[node] && next < tree.nodes; i++) {
                int answer = askNode(who, next, depth + 1);
                done += answer == DONE ? 1 : 0;
                underWay += answer == UNDER_WAY ? 1 : 0;
                next += tree.sizes[next];
            }
            if (done >= tree.bs[node]) {
                return DONE;
            }
            return done + underWay < tree.bs[node] ? FAILED : UNDER_WAY;
        }

        private int askAgain(Creature who, int node, int depth) {
            int answer = askNode(who, node + 1, depth + 1);
            if (answer != DONE) {
                return answer;
            }
            who.progress[node]++;
            return who.progress[node] >= who.tree.as[node] ? DONE : UNDER_WAY;
        }

        private static int opposite(int answer) {
            switch (answer) {
                case DONE:
                    return FAILED;
                case FAILED:
                    return DONE;
                default:
                    return answer;
            }
        }

        private boolean testHolds(Creature who, int node) {
            int sort = who.tree.as[node];
            int k = who.tree.bs[node];
            int n = who.tree.cs[node];
            if (sort == IS_FACT) {
                return fits(world.facts, 1 << n, ALL_FACTS);
            }
            int finding = world.findingOf(k, cellSortOf(sort), n);
            if (finding != NO_FINDING) {
                who.noteFinding(node, finding);
                return false;
            }
            return world.holds(sort, k, n);
        }

        private static int cellSortOf(int testSort) {
            switch (testSort) {
                case IS_ON:
                    return FLAG;
                case IS_ABOVE_AT:
                    return NUMBERS;
                default:
                    return NUMBER;
            }
        }

        private int askDoing(Creature who, int node, int d) {
            if (!doings.knows(d)) {
                return FAILED;
            }
            if (who.left[node] == 0) {
                who.left[node] = doings.lengths[d];
            }
            if (!doings.needsHold(d, world.facts)) {
                who.left[node] = 0;
                who.counts[DOINGS_FAILED]++;
                return FAILED;
            }
            who.left[node]--;
            if (who.left[node] > 0) {
                return UNDER_WAY;
            }
            world.facts = doings.factsBehind(d, world.facts);
            world.bring(doings.cells[d], doings.gains[d]);
            who.counts[DOINGS_DONE]++;
            return DONE;
        }

        private int askPlan(Creature who, int node) {
            if (hasWish(who, node)) {
                return DONE;
            }
            if (wantsPlan(who, node)) {
                planner = planner == null ? new Planner() : planner;
                planner.search(doings, world.facts, who.tree.as[node], who.tree.bs[node]);
                who.takePlan(node, planner, world.facts);
            }
            if (who.planLengths[node] == 0) {
                return FAILED;
            }
            int d = who.doingOf(node);
            int answer = askDoing(who, node, d);
            if (answer == DONE) {
                who.foretold[node] = doings.factsBehind(d, who.foretold[node]);
                who.progress[node]++;
                return hasWish(who, node) ? DONE : UNDER_WAY;
            }
            if (answer == FAILED) {
                who.dropPlan(node);
            }
            return answer;
        }

        private boolean hasWish(Creature who, int node) {
            return fits(world.facts, who.tree.as[node], who.tree.bs[node]);
        }

        private boolean wantsPlan(Creature who, int node) {
            return who.planLengths[node] == 0 || who.left[node] == 0 && world.facts != who.foretold[node];
        }

        /** What comes behind the asking of a TICK; a NODE stands behind all that it is within. */
        private void settleAll(Creature who) {
            Tree tree = who.tree;
            for (int n = 0; n < tree.nodes; n++) {
                int parent = tree.parents[n];
                withinEnded[n] = parent != NONE && (withinEnded[parent] || who.isEndedBeside(parent));
                settle(who, n, !who.askedNow[n] || withinEnded[n]);
            }
        }

        private void settle(Creature who, int node, boolean isOver) {
            switch (who.tree.kinds[node]) {
                case DOING:
                    if (isOver && who.left[node] > 0) {
                        breakOff(who, node);
                    }
                    break;
                case PLAN:
                    if (isOver || who.latest[node] == DONE) {
                        endPlan(who, node);
                    }
                    break;
                case AGAIN:
                case MEMO:
                    if (isOver || who.latest[node] != UNDER_WAY) {
                        who.progress[node] = 0;
                    }
                    break;
                default:
                    break;
            }
        }

        private void endPlan(Creature who, int node) {
            if (who.left[node] > 0) {
                breakOff(who, node);
            }
            who.dropPlan(node);
        }

        private void breakOff(Creature who, int node) {
            int d = who.doingOf(node);
            who.left[node] = 0;
            who.counts[BROKEN_OFF]++;
            if (doings.knows(d)) {
                world.bring(doings.cells[d], doings.finishes[d]);
            }
        }
    }
}
