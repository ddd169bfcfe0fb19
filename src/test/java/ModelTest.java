import java.util.ArrayList;
import java.util.Arrays;
import java.util.List;

/** Long runs of mixed calls, each answer held against a second writing of the document in other ways. */
public final class ModelTest {
    private static final int RUNS = 1200, PLAN_RUNS = 3000, CALLS = 160;

    /** A second writing of the document: trees of objects, plans by all best rows of each length. */
    private static final class Model {
        static final class Doing {
            int ticks, cost, needMask, needBits, makeMask, makeBits, cell = -4, gain, finish;
        }

        static final class Node {
            int kind, a, b, c, number;
            Node parent;
            List<Node> parts = new ArrayList<>();
            int wants;

            int size() {
                int sum = 1;
                for (Node p : parts) {
                    sum += p.size();
                }
                return sum;
            }
        }

        static final class Tree {
            List<Node> nodes = new ArrayList<>();

            int missing() {
                if (nodes.isEmpty()) {
                    return 1;
                }
                int sum = 0;
                for (Node n : nodes) {
                    sum += n.wants - n.parts.size();
                }
                return sum;
            }
        }

        static final class Memory {
            int latest, times, left, doing, again, goesOn, foretold;
            boolean asked;
            List<Integer> plan;
            int place;
        }

        static final class Creature {
            int tree = -4;
            List<Memory> memories = new ArrayList<>();
            int ticks, done, broken, failed, findings, sort, node = -4, plans;
        }

        List<Doing> doings = new ArrayList<>();
        List<Tree> trees = new ArrayList<>();
        List<Creature> creatures = new ArrayList<>();
        List<int[]> log = new ArrayList<>();
        Tree begun;
        int facts;
        Object[] cells = new Object[12];
        Creature who;

        static boolean in(long v, long low, long high) {
            return low <= v && v <= high;
        }

        int doing(int ticks, int cost) {
            if (!in(ticks, 1, 20) || !in(cost, 0, 100)) {
                return -1;
            }
            if (doings.size() == 10) {
                return -3;
            }
            Doing d = new Doing();
            d.ticks = ticks;
            d.cost = cost;
            doings.add(d);
            return doings.size() - 1;
        }

        boolean held() {
            return creatures.stream().anyMatch(c -> c.tree != -4);
        }

        int facts(int d, boolean makes, int mask, int bits) {
            if (!in(d, 0, doings.size() - 1) || !in(mask, 0, 255) || !in(bits, 0, 255)) {
                return -1;
            }
            if (held()) {
                return -2;
            }
            Doing it = doings.get(d);
            if (makes) {
                it.makeMask = mask;
                it.makeBits = bits;
            } else {
                it.needMask = mask;
                it.needBits = bits;
            }
            return 1;
        }

        int effect(int d, int cell, int gain, int finish) {
            if (!in(d, 0, doings.size() - 1) || !in(cell, 0, 11) && cell != -4) {
                return -1;
            }
            if (held()) {
                return -2;
            }
            Doing it = doings.get(d);
            it.cell = cell;
            it.gain = gain;
            it.finish = finish;
            return 1;
        }

        int tree() {
            if (begun != null) {
                return -2;
            }
            if (trees.size() == 8) {
                return -3;
            }
            begun = new Tree();
            return trees.size();
        }

        /** How many PARTS a NODE wants; -1: a number is not as told. */
        int wants(int kind, int a, int b, int c) {
            boolean zeros = b == 0 && c == 0;
            if (kind == 0) {
                return zeros && in(a, 0, doings.size() - 1) ? 0 : -1;
            }
            if (kind == 1 || kind == 5) {
                boolean fine = a == 4 ? b == 0 && in(c, 0, 7) : in(a, 0, 3) && in(b, 0, 11);
                return !fine ? -1 : kind == 5 ? 1 : 0;
            }
            if (kind == 2 || kind == 3 || kind == 7) {
                return zeros && in(a, 1, 6) ? a : -1;
            }
            if (kind == 4) {
                return c == 0 && in(a, 1, 6) && in(b, 1, a) ? a : -1;
            }
            if (kind == 6) {
                return zeros && in(a, 1, 50) ? 1 : -1;
            }
            if (kind == 8) {
                return zeros && a == 0 ? 1 : -1;
            }
            return kind == 9 && in(a, 1, 255) && in(b, 0, 255) && c == 0 ? 0 : -1;
        }

        int node(int kind, int a, int b, int c) {
            int wants = wants(kind, a, b, c);
            if (wants < 0) {
                return -1;
            }
            if (begun == null) {
                return -2;
            }
            if (begun.nodes.size() + begun.missing() + wants > 30) {
                return -3;
            }
            Node n = new Node();
            n.kind = kind;
            n.a = a;
            n.b = b;
            n.c = c;
            n.wants = wants;
            n.number = begun.nodes.size();
            Node up = n.number == 0 ? null : begun.nodes.get(n.number - 1);
            while (up != null && up.parts.size() == up.wants) {
                up = up.parent;
            }
            n.parent = up;
            if (up != null) {
                up.parts.add(n);
            }
            begun.nodes.add(n);
            int missing = begun.missing();
            if (missing == 0) {
                trees.add(begun);
                begun = null;
            }
            return missing;
        }

        int forget() {
            if (begun == null) {
                return -2;
            }
            int had = begun.nodes.size();
            begun = null;
            return had;
        }

        int creature() {
            if (creatures.size() == 6) {
                return -3;
            }
            creatures.add(new Creature());
            return creatures.size() - 1;
        }

        int give(int creature, int tree) {
            if (!in(creature, 0, creatures.size() - 1) || tree != -4 && !in(tree, 0, trees.size() - 1)) {
                return -1;
            }
            who = creatures.get(creature);
            int before = who.broken;
            for (Memory m : who.memories) {
                if (m.left > 0) {
                    breakOff(m);
                }
            }
            who.memories.clear();
            who.tree = tree;
            for (int i = 0; tree != -4 && i < trees.get(tree).nodes.size(); i++) {
                who.memories.add(new Memory());
            }
            return who.broken - before;
        }

        int ask(int creature) {
            if (!in(creature, 0, creatures.size() - 1)) {
                return -1;
            }
            if (creatures.get(creature).tree == -4) {
                return -2;
            }
            return tick(creature);
        }

        int ticks(int n) {
            if (!in(n, 0, 50)) {
                return -1;
            }
            int sum = 0;
            for (int i = 0; i < n; i++) {
                for (int c = 0; c < creatures.size(); c++) {
                    if (creatures.get(c).tree != -4) {
                        tick(c);
                        sum++;
                    }
                }
            }
            return sum;
        }

        int tick(int creature) {
            who = creatures.get(creature);
            log.clear();
            who.ticks++;
            for (Memory m : who.memories) {
                m.asked = false;
            }
            List<Node> nodes = trees.get(who.tree).nodes;
            int answer = answer(nodes.get(0));
            for (Node n : nodes) {
                behind(n, who.memories.get(n.number));
            }
            return answer;
        }

        void behind(Node n, Memory m) {
            boolean ended = false;
            for (Node up = n.parent; up != null; up = up.parent) {
                Memory above = who.memories.get(up.number);
                ended |= up.kind == 4 && above.asked && above.latest != 3;
            }
            boolean gone = !m.asked || ended;
            boolean planIsDone = n.kind == 9 && m.asked && m.latest == 1;
            if (m.left > 0 && (gone || planIsDone)) {
                breakOff(m);
            }
            if (gone || m.latest != 3) {
                m.again = 0;
                m.goesOn = 0;
            }
            if (gone || planIsDone) {
                m.plan = null;
            }
        }

        void breakOff(Memory m) {
            Doing d = doings.get(m.doing);
            m.left = 0;
            m.plan = null;
            who.broken++;
            come(d.cell, d.finish);
        }

        void come(int cell, int more) {
            if (cell == -4) {
                return;
            }
            if (cells[cell] == null) {
                cells[cell] = (long) more;
            } else if (cells[cell] instanceof Long number) {
                cells[cell] = number + more;
            }
        }

        int answer(Node n) {
            Memory m = who.memories.get(n.number);
            int answer = answerOf(n, m);
            m.asked = true;
            m.latest = answer;
            m.times++;
            log.add(new int[] {n.number, answer});
            return answer;
        }

        int answerOf(Node n, Memory m) {
            switch (n.kind) {
                case 0: return act(m, n.a);
                case 1: return test(n) ? 1 : 2;
                case 2: {
                    for (Node p : n.parts) {
                        int one = answer(p);
                        if (one != 1) {
                            return one;
                        }
                    }
                    return 1;
                }
                case 3: {
                    for (Node p : n.parts) {
                        int one = answer(p);
                        if (one != 2) {
                            return one;
                        }
                    }
                    return 2;
                }
                case 4: {
                    int[] how = new int[4];
                    for (Node p : n.parts) {
                        how[answer(p)]++;
                    }
                    return how[1] >= n.b ? 1 : how[1] + how[3] < n.b ? 2 : 3;
                }
                case 5: return test(n) ? answer(n.parts.get(0)) : 2;
                case 6: {
                    int one = answer(n.parts.get(0));
                    if (one == 1) {
                        m.again++;
                        return m.again == n.a ? 1 : 3;
                    }
                    return one;
                }
                case 7: {
                    for (int i = m.goesOn; i < n.parts.size(); i++) {
                        int one = answer(n.parts.get(i));
                        if (one == 3) {
                            m.goesOn = i;
                        }
                        if (one != 1) {
                            return one;
                        }
                    }
                    return 1;
                }
                case 8: {
                    int one = answer(n.parts.get(0));
                    return one == 3 ? 3 : 3 - one;
                }
                default: return wish(n, m);
            }
        }

        boolean test(Node n) {
            if (n.a == 4) {
                return (facts >> n.c) % 2 == 1;
            }
            Object cell = cells[n.b];
            if (cell == null) {
                return find(1, n);
            }
            if (n.a <= 1) {
                return cell instanceof Long v ? (n.a == 0 ? v > n.c : v == n.c) : find(3, n);
            }
            if (n.a == 2) {
                return cell instanceof Boolean on ? on : find(3, n);
            }
            if (cell instanceof int[] row) {
                return in(n.c, 0, row.length - 1) ? row[n.c] > 0 : find(2, n);
            }
            return find(3, n);
        }

        boolean find(int sort, Node n) {
            who.findings++;
            who.sort = sort;
            who.node = n.number;
            return false;
        }

        static int made(Doing d, int facts) {
            int out = 0;
            for (int f = 1; f < 256; f *= 2) {
                out |= ((d.makeMask & f) != 0 ? d.makeBits : facts) & f;
            }
            return out;
        }

        static boolean fits(int facts, int mask, int bits) {
            return (facts & mask) == (bits & mask);
        }

        int act(Memory m, int doing) {
            Doing d = doings.get(doing);
            if (m.left == 0) {
                m.left = d.ticks;
                m.doing = doing;
            }
            if (!fits(facts, d.needMask, d.needBits)) {
                m.left = 0;
                who.failed++;
                return 2;
            }
            if (--m.left > 0) {
                return 3;
            }
            facts = made(d, facts);
            come(d.cell, d.gain);
            who.done++;
            return 1;
        }

        int wish(Node n, Memory m) {
            if (fits(facts, n.a, n.b)) {
                return 1;
            }
            if (m.plan == null || m.left == 0 && facts != m.foretold) {
                m.plan = best(n.a, n.b);
                m.place = 0;
                m.foretold = facts;
                if (m.plan == null) {
                    return 2;
                }
                who.plans++;
            }
            int doing = m.plan.get(m.place);
            int one = act(m, doing);
            if (one == 2) {
                m.plan = null;
            }
            if (one == 1) {
                m.place++;
                m.foretold = made(doings.get(doing), m.foretold);
                return fits(facts, n.a, n.b) ? 1 : 3;
            }
            return one;
        }

        /** Forward: of all rows of one length to the same FACTS only the best can be the start of the best. */
        List<Integer> best(int mask, int bits) {
            List<List<Integer>> rows = new ArrayList<>();
            for (int f = 0; f < 256; f++) {
                rows.add(f == facts ? new ArrayList<>() : null);
            }
            List<Integer> best = null;
            for (int length = 1; length <= 12; length++) {
                List<List<Integer>> longer = new ArrayList<>(java.util.Collections.nCopies(256, null));
                for (int f = 0; f < 256; f++) {
                    for (int d = 0; rows.get(f) != null && d < doings.size(); d++) {
                        Doing it = doings.get(d);
                        if (fits(f, it.needMask, it.needBits)) {
                            List<Integer> row = new ArrayList<>(rows.get(f));
                            row.add(d);
                            int to = made(it, f);
                            longer.set(to, less(row, longer.get(to)) ? row : longer.get(to));
                        }
                    }
                }
                for (int f = 0; f < 256; f++) {
                    if (fits(f, mask, bits) && longer.get(f) != null) {
                        best = less(longer.get(f), best) ? longer.get(f) : best;
                        longer.set(f, null);
                    }
                }
                rows = longer;
            }
            return best;
        }

        int cost(List<Integer> row) {
            int sum = 0;
            for (int d : row) {
                sum += doings.get(d).cost;
            }
            return sum;
        }

        boolean less(List<Integer> one, List<Integer> other) {
            if (other == null || cost(one) != cost(other)) {
                return other == null || cost(one) < cost(other);
            }
            if (one.size() != other.size()) {
                return one.size() < other.size();
            }
            for (int i = 0; i < one.size(); i++) {
                if (!one.get(i).equals(other.get(i))) {
                    return one.get(i) < other.get(i);
                }
            }
            return false;
        }

        int world(int bits) {
            int was = facts;
            facts = in(bits, 0, 255) ? bits : facts;
            return in(bits, 0, 255) ? was : -1;
        }

        int cell(int k, int sort, long v) {
            if (!in(k, 0, 11) || !in(sort, 0, 3) || sort == 3 && v > 6) {
                return -1;
            }
            if (sort == 3 && v < 0) {
                return -14;
            }
            cells[k] = sort == 0 ? null : sort == 1 ? (Object) v : sort == 2 ? (Object) (v != 0) : new int[(int) v];
            return 1;
        }

        int row(int k, int i, int v) {
            if (!in(k, 0, 11)) {
                return -1;
            }
            if (cells[k] == null) {
                return -11;
            }
            if (!(cells[k] instanceof int[] row)) {
                return -13;
            }
            if (!in(i, 0, row.length - 1)) {
                return -12;
            }
            row[i] = v;
            return 1;
        }

        long has(int k, int what) {
            if (!in(k, 0, 11) || !in(what, 0, 1)) {
                return what == 1 ? 0 : -1;
            }
            Object cell = cells[k];
            if (cell == null) {
                return 0;
            }
            if (cell instanceof Long v) {
                return what == 0 ? 1 : v;
            }
            if (cell instanceof Boolean on) {
                return what == 0 ? 2 : on ? 1 : 0;
            }
            return what == 0 ? 3 : ((int[]) cell).length;
        }

        int told(int creature, int node, int what) {
            if (!in(creature, 0, creatures.size() - 1) || !in(what, 0, 3)) {
                return -1;
            }
            Creature c = creatures.get(creature);
            if (!in(node, 0, c.memories.size() - 1)) {
                return -1;
            }
            Memory m = c.memories.get(node);
            int kind = trees.get(c.tree).nodes.get(node).kind;
            if (what < 3) {
                return what == 0 ? m.latest : what == 1 ? m.times : m.left;
            }
            return kind == 6 ? m.again : kind == 7 ? m.goesOn : kind != 9 ? 0 : m.plan == null ? -4 : m.place;
        }

        int asked(int i, int what) {
            return in(i, 0, Math.min(40, log.size()) - 1) && in(what, 0, 1) ? log.get(i)[what] : -1;
        }

        int plan(int creature, int node, int i) {
            if (!in(creature, 0, creatures.size() - 1)) {
                return -1;
            }
            Creature c = creatures.get(creature);
            if (!in(node, 0, c.memories.size() - 1) || trees.get(c.tree).nodes.get(node).kind != 9) {
                return -1;
            }
            List<Integer> plan = c.memories.get(node).plan;
            return plan != null && in(i, 0, plan.size() - 1) ? plan.get(i) : -4;
        }

        int count(int creature, int what) {
            if (!in(creature, 0, creatures.size() - 1) || !in(what, 0, 8)) {
                return -1;
            }
            Creature c = creatures.get(creature);
            int[] all = {c.ticks, c.done, c.broken, c.failed, c.findings, c.sort, c.node, c.plans, c.tree};
            return all[what];
        }

        int all(int what) {
            int[] all = {doings.size(), trees.size(), creatures.size(), facts,
                begun == null ? -4 : begun.nodes.size(), log.size()};
            return in(what, 0, 5) ? all[what] : -1;
        }

        int part(int tree, int n, int what) {
            if (!in(tree, 0, trees.size() - 1) || !in(n, 0, trees.get(tree).nodes.size() - 1) || !in(what, 0, 5)) {
                return -1;
            }
            Node it = trees.get(tree).nodes.get(n);
            int[] all = {it.kind, it.a, it.b, it.c, it.parent == null ? -4 : it.parent.number, it.size()};
            return all[what];
        }
    }

    private static long seed;
    private static WishTrees x;
    private static Model model;
    private static int wrong = 0;
    private static StringBuilder story;
    /** Ticks, done, broken off, failed, findings, plans, and the longest plan: how far the runs came. */
    private static final long[] REACHED = new long[7];

    /** A number from 0 to n - 1 of a row that is the same each time. */
    private static int pick(int n) {
        seed = seed * 6364136223846793005L + 1442695040888963407L;
        return (int) Math.floorMod(seed >>> 33, (long) n);
    }

    private static int oneOf(int... numbers) {
        return numbers[pick(numbers.length)];
    }

    /** Now and then a number that no call wants. */
    private static int maybeOdd(int number) {
        return pick(40) > 0 ? number
            : oneOf(-1, -4, -5, Integer.MIN_VALUE, Integer.MAX_VALUE, 6, 8, 10, 12, 21, 30, 31, 51, 101, 256);
    }

    private static void same(String call, long got, long want) {
        if (story.length() < 20000) {
            story.append(call).append(" = ").append(want).append('\n');
        }
        if (got != want) {
            wrong++;
            System.out.println("run of calls:\n" + story + call + " answered " + got + ", the model " + want);
            System.exit(1);
        }
    }

    private static void teach(int doings, int width) {
        int top = 1 << width;
        for (int i = 0; i < doings; i++) {
            int t = maybeOdd(oneOf(1, 1, 1, 2, 2, 3, 4, 20));
            int c = maybeOdd(oneOf(0, 0, 1, 1, 2, 3, 5, 9, 100));
            same("doing " + t + " " + c, x.doing(t, c), model.doing(t, c));
            facts(i, false, oneOf(0, 1 << pick(width), pick(top)), pick(top));
            facts(i, true, oneOf(1 << pick(width), 1 << pick(width), pick(top)), oneOf(255, pick(top), pick(top)));
            int k = maybeOdd(oneOf(-4, 0, 1, 2, 3));
            int g = oneOf(1, 2, 10, -3, 0, Integer.MAX_VALUE);
            int f = oneOf(0, 100, -7, Integer.MIN_VALUE);
            same("effect " + i + " " + k + " " + g + " " + f, x.effect(i, k, g, f), model.effect(i, k, g, f));
        }
    }

    private static void facts(int d, boolean makes, int mask, int bits) {
        plainFacts(d, makes, maybeOdd(mask), maybeOdd(bits));
    }

    private static void node(int width) {
        int kind = maybeOdd(oneOf(0, 0, 0, 0, 1, 1, 1, 2, 2, 3, 3, 4, 4, 4, 5, 5, 6, 7, 7, 8, 9, 9, 9));
        int a = 0;
        int b = 0;
        int c = 0;
        switch (kind) {
            case 0:
                a = pick(Math.max(1, model.doings.size()));
                break;
            case 1:
            case 5:
                a = oneOf(0, 1, 2, 3, 4, 4, 4, 4);
                b = a == 4 ? 0 : pick(5);
                c = a == 4 ? pick(width) : oneOf(-1, 0, 0, 1, 2, 3, 7);
                break;
            case 2:
            case 3:
            case 7:
                a = oneOf(1, 2, 2, 3, 3, 4, 6);
                break;
            case 4:
                a = oneOf(1, 2, 2, 3, 3, 4, 6);
                b = 1 + pick(a);
                break;
            case 6:
                a = oneOf(1, 2, 2, 3, 50);
                break;
            case 9:
                a = oneOf(1 << pick(width), 1 + pick((1 << width) - 1));
                b = oneOf(255, pick(1 << width));
                break;
            default:
                break;
        }
        a = maybeOdd(a);
        b = maybeOdd(b);
        c = maybeOdd(c);
        same("node " + kind + " " + a + " " + b + " " + c, x.node(kind, a, b, c), model.node(kind, a, b, c));
    }

    private static void plant(int width) {
        same("tree", x.tree(), model.tree());
        for (int i = 0; i < 60 && model.begun != null; i++) {
            node(width);
        }
        if (pick(8) == 0) {
            same("forget", x.forget(), model.forget());
        }
    }

    private static void furnish() {
        int k = maybeOdd(pick(5));
        int sort = maybeOdd(pick(4));
        long v = oneOf(0, 1, 2, 3, 5, 6, 7, -1, Integer.MAX_VALUE) * (pick(9) == 0 ? 1L << 31 : 1L);
        same("cell " + k + " " + sort + " " + v, x.cell(k, sort, v), model.cell(k, sort, v));
        for (int i = 0; i < 3; i++) {
            int place = maybeOdd(pick(4));
            int w = oneOf(-1, 0, 1, 2);
            same("row " + k + " " + place + " " + w, x.row(k, place, w), model.row(k, place, w));
        }
    }

    private static void act(int width) {
        int who = maybeOdd(pick(Math.max(1, model.creatures.size())));
        switch (pick(14)) {
            case 0: {
                int bits = maybeOdd(model.facts ^ 1 << pick(width));
                same("world " + bits, x.world(bits), model.world(bits));
                break;
            }
            case 1:
                furnish();
                break;
            case 2: {
                int tree = maybeOdd(pick(5) == 0 ? -4 : pick(Math.max(1, model.trees.size())));
                same("give " + who + " " + tree, x.give(who, tree), model.give(who, tree));
                break;
            }
            case 3: {
                int n = maybeOdd(oneOf(0, 1, 1, 2, 3));
                same("ticks " + n, x.ticks(n), model.ticks(n));
                break;
            }
            case 4:
                if (pick(4) == 0) {
                    teach(1, width);
                } else if (pick(2) == 0) {
                    plant(width);
                } else {
                    same("creature", x.creature(), model.creature());
                }
                break;
            default:
                same("ask " + who, x.ask(who), model.ask(who));
                break;
        }
    }

    private static void lookAll() {
        for (int what = -1; what < 7; what++) {
            same("all " + what, x.all(what), model.all(what));
        }
        for (int k = -1; k < 13; k++) {
            for (int what = -1; what < 3; what++) {
                same("has " + k + " " + what, x.has(k, what), model.has(k, what));
            }
        }
        for (int i = -1; i <= model.log.size(); i++) {
            for (int what = -1; what < 3; what++) {
                same("asked " + i + " " + what, x.asked(i, what), model.asked(i, what));
            }
        }
        for (int c = -1; c <= model.creatures.size(); c++) {
            lookAt(c);
        }
    }

    private static void lookAt(int c) {
        for (int what = -1; what < 10; what++) {
            same("count " + c + " " + what, x.count(c, what), model.count(c, what));
        }
        int nodes = c < 0 || c >= model.creatures.size() ? 0 : model.creatures.get(c).memories.size();
        for (int n = -1; n <= nodes; n++) {
            for (int what = -1; what < 5; what++) {
                same("told " + c + " " + n + " " + what, x.told(c, n, what), model.told(c, n, what));
            }
            for (int i = -1; i < 13; i++) {
                int planned = model.plan(c, n, i);
                same("plan " + c + " " + n + " " + i, x.plan(c, n, i), planned);
                REACHED[6] = Math.max(REACHED[6], planned >= 0 ? i + 1 : 0);
            }
        }
    }

    private static void lookAtParts() {
        for (int t = -1; t <= model.trees.size(); t++) {
            int nodes = t < 0 || t >= model.trees.size() ? 0 : model.trees.get(t).nodes.size();
            for (int n = -1; n <= nodes; n++) {
                for (int what = -1; what < 7; what++) {
                    same("part " + t + " " + n + " " + what, x.part(t, n, what), model.part(t, n, what));
                }
            }
        }
    }

    private static void run(int number) {
        seed = number * 7919L + 17;
        story = new StringBuilder("run " + number + "\n");
        x = new WishTrees();
        model = new Model();
        int width = 2 + pick(7);
        teach(1 + pick(10), width);
        int trees = 1 + pick(4);
        for (int i = 0; i < trees; i++) {
            plant(width);
        }
        for (int i = 0; i < 3; i++) {
            furnish();
        }
        int creatures = 1 + pick(3);
        for (int i = 0; i < creatures; i++) {
            same("creature", x.creature(), model.creature());
            int tree = pick(Math.max(1, model.trees.size()));
            same("give " + i + " " + tree, x.give(i, tree), model.give(i, tree));
        }
        for (int i = 0; i < CALLS; i++) {
            act(width);
            int kept = story.length();
            lookAll();
            story.setLength(Math.min(kept, story.length()));
        }
        lookAtParts();
        for (Model.Creature c : model.creatures) {
            long[] more = {c.ticks, c.done, c.broken, c.failed, c.findings, c.plans};
            for (int i = 0; i < more.length; i++) {
                REACHED[i] += more[i];
            }
        }
    }

    /** Doings that count in bits, with some leaps: their plans are long, with many ways of one cost. */
    private static void planRun(int number) {
        seed = number * 104729L + 5;
        story = new StringBuilder("plan run " + number + "\n");
        x = new WishTrees();
        model = new Model();
        int width = 3 + pick(3);
        int shift = pick(4);
        int dearest = oneOf(1, 1, 3, 101);
        for (int i = 0; i < 10; i++) {
            int cost = pick(dearest);
            int ticks = oneOf(1, 1, 1, 2);
            same("doing " + ticks + " " + cost, x.doing(ticks, cost), model.doing(ticks, cost));
            int bit = (i + shift) % 10;
            boolean counts = bit < width;
            int mask = counts ? (2 << bit) - 1 : pick(3) == 0 ? 255 : (1 << width) - 1;
            int needs = counts ? (1 << bit) - 1 : pick(1 << width);
            plainFacts(i, false, mask, needs);
            plainFacts(i, true, mask, counts ? 1 << bit : pick(1 << width));
        }
        same("tree", x.tree(), model.tree());
        int wish = pick(1 << width);
        int mask = oneOf((1 << width) - 1, (1 << width) - 1, 1 << width - 1);
        same("node 9 " + mask + " " + wish, x.node(9, mask, wish, 0), model.node(9, mask, wish, 0));
        same("creature", x.creature(), model.creature());
        same("give", x.give(0, 0), model.give(0, 0));
        for (int i = 0; i < 6; i++) {
            int facts = pick(1 << width);
            same("world " + facts, x.world(facts), model.world(facts));
            for (int j = 0; j < 3; j++) {
                same("ask", x.ask(0), model.ask(0));
                lookAt(0);
            }
        }
        REACHED[5] += model.count(0, 7);
    }

    private static void plainFacts(int d, boolean makes, int mask, int bits) {
        same("facts " + d + " " + makes + " " + mask + " " + bits, x.facts(d, makes, mask, bits),
            model.facts(d, makes, mask, bits));
    }

    public static void main(String[] args) {
        int runs = args.length > 1 ? Integer.parseInt(args[1]) : RUNS;
        int planRuns = args.length > 2 ? Integer.parseInt(args[2]) : PLAN_RUNS;
        for (int i = 0; i < runs; i++) {
            run(i);
        }
        for (int i = 0; i < planRuns; i++) {
            planRun(i);
        }
        System.out.println("ModelTest: " + (runs + planRuns)
            + " runs; ticks, done, broken off, failed, findings, plans, longest plan: " + Arrays.toString(REACHED));
        if (REACHED[6] < 12) {
            System.out.println("no run made a plan of twelve");
            System.exit(1);
        }
    }
}
