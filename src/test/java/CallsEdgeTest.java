/** The edges that the public face and promises 1 to 21 name, a sentence at a time. */
public final class CallsEdgeTest extends Checks {
    public static void main(String[] args) throws Exception {
        constants();
        manyCalls();
        newObject();
        objectsApart();
        doing();
        facts();
        effect();
        tree();
        nodeNumbers();
        nodeParts();
        nodeRoom();
        forget();
        creature();
        give();
        giveBreaksOff();
        ask();
        ticks();
        world();
        cell();
        row();
        has();
        told();
        asked();
        count();
        all();
        part();
        end("CallsEdgeTest", args);
    }

    private static void constants() {
        says("Answers: BAD -1 (a number is not as told, there is no such thing), STATE -2 (not now), FULL -3, NONE -4 "
            + "(there is none), the first that fits");
        due("BAD", WishTrees.BAD, -1);
        due("STATE", WishTrees.STATE, -2);
        due("FULL", WishTrees.FULL, -3);
        due("NONE", WishTrees.NONE, -4);
    }

    private static void manyCalls() {
        says("An object is used for at most 512 calls after it has been made");
        WishTrees x = new WishTrees();
        learn(x, 1, 1, 1, 0, 1, 1);
        x.effect(0, 0, MOST, 0);
        x.doing(2, 0);
        int who = grow(x, beside(2, 2), again(1), act(1), els(2), act(0), fact(0));
        // 3 + 1 + 1 + 7 + 2 = 14 calls so far; two of three of the rest ask
        int asks = 0;
        for (int i = 15; i <= 510; i++) {
            if (i % 3 == 0) {
                due("call " + i, x.world(0), asks == 0 ? 0 : 1);
            } else if (i % 3 == 1) {
                due("call " + i, x.ticks(50), 50);
                asks += 50;
            } else {
                due("call " + i, x.ask(who), asks % 2 == 1 ? DONE : UNDER_WAY);
                asks++;
            }
        }
        due("call 511", x.count(who, 0), asks);
        due("call 512", x.told(who, 0, 1), asks);
    }

    private static void newObject() {
        says("No DOINGS, TREES, CREATURES; CELLS have NOTHING.");
        WishTrees x = new WishTrees();
        int[] first = {0, 0, 0, 0, NONE, 0};
        for (int what = 0; what < 6; what++) {
            due("all " + what, x.all(what), first[what]);
        }
        for (int k = 0; k < 12; k++) {
            due("sort of " + k, x.has(k, 0), 0);
            due("nothing in " + k, x.has(k, 1), 0);
            due("no row in " + k, x.row(k, 0, 1), -11);
        }
        due("no doing", x.facts(0, true, 0, 0), BAD);
        due("no doing's effect", x.effect(0, NONE, 0, 0), BAD);
        due("no tree", x.part(0, 0, 0), BAD);
        due("none begun", x.forget(), STATE);
        due("none begun for a node", x.node(8, 0, 0, 0), STATE);
        due("no creature to give to", x.give(0, NONE), BAD);
        due("no creature to ask", x.ask(0), BAD);
        due("no creature told of", x.told(0, 0, 0), BAD);
        due("no creature's plan", x.plan(0, 0, 0), BAD);
        due("no creature's count", x.count(0, 0), BAD);
        due("no asking", x.asked(0, 0), BAD);
        due("no ticks", x.ticks(50), 0);
    }

    private static void objectsApart() {
        says("No DOINGS, TREES, CREATURES; CELLS have NOTHING.");
        WishTrees x = new WishTrees();
        learn(x, 1, 1, 0, 0, 255, 255);
        x.effect(0, 0, 5, 5);
        int who = grow(x, beside(2, 2), act(0), wish(3, 1));
        x.cell(1, 3, 6);
        x.ask(who);
        x.tree();
        WishTrees y = new WishTrees();
        int[] first = {0, 0, 0, 0, NONE, 0};
        for (int what = 0; what < 6; what++) {
            due("another object's all " + what, y.all(what), first[what]);
        }
        for (int k = 0; k < 12; k++) {
            due("another object's cell " + k, y.has(k, 0), 0);
        }
        due("another object's creature", y.count(0, 0), BAD);
        y.world(9);
        y.cell(0, 2, 1);
        due("the first's facts", x.all(3), 255);
        due("the first's cell", x.has(0, 1), 5);
    }

    private static void doing() {
        says("A DOING without MAKES' and NEEDS' bits, CELL: its number. BAD; FULL.");
        WishTrees x = new WishTrees();
        badOutside("doing's ticks", 1, 20, t -> x.doing(t, 50));
        badOutside("doing's cost", 0, 100, c -> x.doing(10, c));
        due("neither", x.doing(0, -1), BAD);
        int[][] edges = {{1, 0}, {1, 100}, {20, 0}, {20, 100}};
        for (int i = 0; i < 10; i++) {
            due("number", x.doing(edges[i % 4][0], edges[i % 4][1]), i);
        }
        due("full", x.doing(1, 0), FULL);
        badOutside("doing's ticks when full", 1, 20, t -> x.doing(t, 50));
        badOutside("doing's cost when full", 0, 100, c -> x.doing(10, c));
        int[] facts = {0, 255, 170, 85};
        int who = grow(x, row(2), act(0), act(1));
        for (int f : facts) {
            x.world(f);
            due("no needs in " + f, x.ask(who), DONE);
            due("no makes in " + f, x.all(3), f);
        }
        for (int k = 0; k < 12; k++) {
            due("no cell, not " + k, x.has(k, 0), 0);
        }
        // a doing may come while creatures have trees
        WishTrees y = new WishTrees();
        grow(y, fact(0));
        due("beside a tree", y.doing(1, 1), 0);
        y.tree();
        due("beside a begun tree", y.doing(1, 1), 1);
        due("into the begun tree", y.node(0, 1, 0, 0), 0);
    }

    private static void facts() {
        says("A DOING's NEEDS (makes false) or MAKES: 1. BAD: also a mask, bits not 0 to 255. STATE: a CREATURE has a TREE.");
        WishTrees x = new WishTrees();
        x.doing(1, 0);
        x.doing(1, 0);
        for (int side = 0; side < 2; side++) {
            boolean makes = side == 1;
            badOutside("facts' doing", 0, 1, d -> x.facts(d, makes, 1, 1));
            badOutside("facts' mask", 0, 255, m -> x.facts(0, makes, m, 1));
            badOutside("facts' bits", 0, 255, b -> x.facts(0, makes, 1, b));
            due("least", x.facts(0, makes, 0, 0), 1);
            due("most", x.facts(1, makes, 255, 255), 1);
            due("bits without a mask", x.facts(1, makes, 0, 255), 1);
        }
        due("needs", x.facts(0, false, 1, 1), 1);
        due("makes", x.facts(0, true, 2, 2), 1);
        due("needs anew", x.facts(0, false, 4, 4), 1);
        plant(x, act(0));
        x.creature();
        x.creature();
        due("creatures without a tree", x.facts(0, true, 2, 2), 1);
        x.give(1, 0);
        for (int side = 0; side < 2; side++) {
            boolean makes = side == 1;
            due("a creature has a tree", x.facts(0, makes, 0, 0), STATE);
            due("the other doing likewise", x.facts(1, makes, 0, 0), STATE);
            badOutside("doing before state", 0, 1, d -> x.facts(d, makes, 1, 1));
            badOutside("mask before state", 0, 255, m -> x.facts(0, makes, m, 1));
            badOutside("bits before state", 0, 255, b -> x.facts(0, makes, 1, b));
        }
        due("needs want fact 2", x.ask(1), FAILED);
        x.world(4);
        due("needs are the latest", x.ask(1), DONE);
        due("makes are makes", x.all(3), 6);
        x.give(0, 0);
        x.give(1, NONE);
        due("the other has one", x.facts(0, true, 0, 0), STATE);
        x.give(0, NONE);
        due("none has one", x.facts(0, true, 0, 0), 1);
        x.give(0, 0);
        x.world(4);
        x.ask(0);
        due("makes anew", x.all(3), 4);
    }

    private static void effect() {
        says("A DOING's CELL (NONE: none), GAIN, FINISH: 1. BAD. STATE likewise.");
        WishTrees x = new WishTrees();
        x.doing(2, 0);
        x.doing(2, 0);
        badOutside("effect's doing", 0, 1, d -> x.effect(d, 0, 1, 1));
        int[] noCells = {LEAST, -5, -3, -2, -1, 12, 13, MOST};
        for (int k : noCells) {
            due("no cell " + k, x.effect(0, k, 1, 1), BAD);
        }
        int[] cells = {NONE, 0, 11};
        for (int k : cells) {
            due("cell " + k, x.effect(0, k, LEAST, MOST), 1);
        }
        due("anew", x.effect(0, 4, 3, 30), 1);
        due("the other", x.effect(1, 5, 4, 40), 1);
        plant(x, beside(2, 2), act(0), act(1));
        x.creature();
        due("a creature without a tree", x.effect(0, 4, 3, 30), 1);
        x.give(0, 0);
        due("a creature has a tree", x.effect(0, 4, 1, 1), STATE);
        due("none, likewise", x.effect(0, NONE, 1, 1), STATE);
        for (int k : noCells) {
            due("no cell before state " + k, x.effect(0, k, 1, 1), BAD);
        }
        badOutside("doing before state", 0, 1, d -> x.effect(d, 0, 1, 1));
        x.ask(0);
        due("broken off", x.give(0, 0), 2);
        due("finish", x.has(4, 1), 30);
        due("the other's finish", x.has(5, 1), 40);
        x.ask(0);
        x.ask(0);
        due("gain", x.has(4, 1), 33);
        due("the other's gain", x.has(5, 1), 44);
        due("not in the cell of before", x.has(11, 0) + x.has(0, 0), 0);
    }

    private static void tree() {
        says("A TREE begins (none is begun): its number. STATE: one is begun; FULL.");
        WishTrees x = new WishTrees();
        for (int t = 0; t < 8; t++) {
            due("tree " + t, x.tree(), t);
            due("one is begun", x.tree(), STATE);
            due("forgotten", x.forget(), 0);
            due("the same number", x.tree(), t);
            due("a part to come", x.node(8, 0, 0, 0), 1);
            due("one is begun still", x.tree(), STATE);
            due("whole", x.node(1, 4, 0, 0), 0);
        }
        due("full", x.tree(), FULL);
        due("full still", x.tree(), FULL);
        due("eight", x.all(1), 8);
        due("none is begun", x.all(4), NONE);
    }

    private static void nodeNumbers() {
        says("2 to 4, 7: a PARTS (1 to 6), b (BESIDE: m, 1 to a; else 0); 0: a the DOING, b, c 0; 1, 5: a TEST's sort, CELL, "
            + "n (sort 3: n any; 4: the CELL 0); 6: a m, b, c 0; 8: all 0; 9: a mask, b bits, c 0 (c is 0 for 2 to 4, 7)");
        WishTrees x = new WishTrees();
        x.doing(1, 0);
        x.doing(1, 0);
        x.tree();
        badOutside("kind", 0, 9, k -> x.node(k, 0, 0, 0));
        int[] parted = {2, 3, 7};
        for (int kind : parted) {
            badOutside("parts of " + kind, 1, 6, a -> x.node(kind, a, 0, 0));
            badOutside("b of " + kind, 0, 0, b -> x.node(kind, 2, b, 0));
            badOutside("c of " + kind, 0, 0, c -> x.node(kind, 2, 0, c));
        }
        badOutside("parts of a beside", 1, 6, a -> x.node(4, a, 1, 0));
        for (int parts = 1; parts <= 6; parts++) {
            int a = parts;
            badOutside("m of a beside of " + a, 1, a, m -> x.node(4, a, m, 0));
        }
        badOutside("c of a beside", 0, 0, c -> x.node(4, 2, 1, c));
        badOutside("a doing", 0, 1, a -> x.node(0, a, 0, 0));
        badOutside("b of a doing", 0, 0, b -> x.node(0, 1, b, 0));
        badOutside("c of a doing", 0, 0, c -> x.node(0, 1, 0, c));
        int[] testing = {1, 5};
        for (int kind : testing) {
            badOutside("sort of " + kind, 0, 4, s -> x.node(kind, s, 0, 0));
            for (int sort = 0; sort < 4; sort++) {
                int s = sort;
                badOutside("cell of sort " + s, 0, 11, k -> x.node(kind, s, k, 0));
            }
            badOutside("cell of sort 4", 0, 0, k -> x.node(kind, 4, k, 0));
            badOutside("fact", 0, 7, n -> x.node(kind, 4, 0, n));
        }
        badOutside("m of an again", 1, 50, m -> x.node(6, m, 0, 0));
        badOutside("b of an again", 0, 0, b -> x.node(6, 2, b, 0));
        badOutside("c of an again", 0, 0, c -> x.node(6, 2, 0, c));
        badOutside("a of a not", 0, 0, a -> x.node(8, a, 0, 0));
        badOutside("b of a not", 0, 0, b -> x.node(8, 0, b, 0));
        badOutside("c of a not", 0, 0, c -> x.node(8, 0, 0, c));
        badOutside("mask", 1, 255, a -> x.node(9, a, 1, 0));
        badOutside("bits", 0, 255, b -> x.node(9, 1, b, 0));
        badOutside("c of a plan", 0, 0, c -> x.node(9, 1, 1, c));
        due("nothing came", x.all(4), 0);
        due("it is begun still", x.node(1, 4, 0, 7), 0);
    }

    private static void nodeParts() {
        says("0 the TREE is whole (begun no more), else how many NODES must come at least.");
        WishTrees x = new WishTrees();
        x.doing(1, 0);
        x.doing(1, 0);
        // what may be told, and how many parts it has
        int[][] good = {{0, 0, 0, 0, 0}, {0, 1, 0, 0, 0}, {1, 0, 0, LEAST, 0}, {1, 0, 11, MOST, 0}, {1, 1, 11, LEAST, 0},
            {1, 2, 0, LEAST, 0}, {1, 2, 11, MOST, 0}, {1, 3, 0, LEAST, 0}, {1, 3, 11, MOST, 0}, {1, 4, 0, 0, 0},
            {1, 4, 0, 7, 0}, {2, 1, 0, 0, 1}, {2, 6, 0, 0, 6}, {3, 1, 0, 0, 1}, {3, 6, 0, 0, 6}, {4, 1, 1, 0, 1},
            {4, 6, 1, 0, 6}, {4, 6, 6, 0, 6}, {5, 0, 0, LEAST, 1}, {5, 1, 11, MOST, 1}, {5, 2, 0, LEAST, 1},
            {5, 3, 11, MOST, 1}, {5, 3, 0, LEAST, 1}, {5, 4, 0, 0, 1}, {5, 4, 0, 7, 1}, {6, 1, 0, 0, 1}, {6, 50, 0, 0, 1},
            {7, 1, 0, 0, 1}, {7, 6, 0, 0, 6}, {8, 0, 0, 0, 1}, {9, 1, 0, 0, 0}, {9, 255, 255, 0, 0}, {9, 255, 0, 0, 0}};
        for (int[] g : good) {
            String name = g[0] + " " + g[1] + " " + g[2] + " " + g[3];
            x.tree();
            due("first, " + name, x.node(g[0], g[1], g[2], g[3]), g[4]);
            due("nodes", x.all(4), g[4] == 0 ? NONE : 1);
            if (g[4] > 0) {
                due("a second one, " + name, x.node(g[0], g[1], g[2], g[3]), 2 * g[4] - 1);
                due("had", x.forget(), 2);
            } else {
                x = new WishTrees();
                x.doing(1, 0);
                x.doing(1, 0);
            }
        }
        says("STATE: none is begun");
        WishTrees y = new WishTrees();
        y.doing(1, 0);
        int[][] told = {act(0), fact(0), row(1), els(6), beside(6, 6), guard(0), again(50), memo(1), not(), wish(1, 1)};
        for (int round = 0; round < 3; round++) {
            for (int[] t : told) {
                due("none is begun for kind " + t[0], y.node(t[0], t[1], t[2], t[3]), STATE);
            }
            if (round == 0) {
                plant(y, fact(0));
            } else {
                y.tree();
                y.node(8, 0, 0, 0);
                y.forget();
            }
        }
    }

    private static void nodeRoom() {
        says("FULL: it would come to more than 30.");
        for (int parts = 1; parts <= 6; parts++) {
            for (int nots = 22; nots <= 29; nots++) {
                int[] kinds = {2, 3, 4, 7};
                for (int kind : kinds) {
                    WishTrees x = new WishTrees();
                    x.tree();
                    for (int i = 0; i < nots; i++) {
                        due("a not", x.node(8, 0, 0, 0), 1);
                    }
                    boolean room = nots + 1 + parts <= 30;
                    int m = kind == 4 ? 1 : 0;
                    due(parts + " behind " + nots, x.node(kind, parts, m, 0), room ? parts : FULL);
                    due("nodes", x.all(4), room ? nots + 1 : nots);
                    for (int i = room ? parts : 1; i > 0; i--) {
                        due("a leaf", x.node(1, 4, 0, 0), i - 1);
                    }
                    due("whole", x.all(1), 1);
                    due("of so many", x.part(0, 0, 5), room ? nots + 1 + parts : nots + 1);
                }
            }
        }
        WishTrees x = new WishTrees();
        x.tree();
        for (int i = 0; i < 29; i++) {
            x.node(8, 0, 0, 0);
        }
        int[][] one = {row(1), els(1), beside(1, 1), guard(0), again(1), memo(1), not()};
        for (int[] t : one) {
            due("no thirty-first for kind " + t[0], x.node(t[0], t[1], t[2], t[3]), FULL);
        }
        due("bad before full", x.node(8, 0, 0, 1), BAD);
        due("29 of it", x.all(4), 29);
        due("the thirtieth", x.node(9, 1, 1, 0), 0);
        due("state behind it", x.node(8, 0, 0, 0), STATE);
    }

    private static void forget() {
        says("The TREE that is begun is forgotten: how many NODES it had. STATE.");
        WishTrees x = new WishTrees();
        due("none is begun", x.forget(), STATE);
        for (int nodes = 0; nodes < 30; nodes++) {
            due("the same number", x.tree(), 0);
            for (int i = 0; i < nodes; i++) {
                due("a node", x.node(i % 2 == 0 ? 8 : 2, i % 2, 0, 0), 1);
            }
            due("had", x.forget(), nodes);
        }
        due("none is begun any more", x.forget(), STATE);
        due("no nodes", x.all(4), NONE);
        due("no tree", x.all(1), 0);
        due("nothing to tell", x.part(0, 0, 0), BAD);
        due("a tree of one", plant(x, fact(3)), 0);
        due("nothing of those forgotten", x.part(0, 0, 0) * 10 + x.part(0, 0, 5), 11);
        due("no second node", x.part(0, 1, 0), BAD);
        due("whole ones are not forgotten", x.forget(), STATE);
        due("it is there", x.all(1), 1);
    }

    private static void creature() {
        says("A CREATURE without a TREE: its number. FULL.");
        WishTrees x = new WishTrees();
        plant(x, fact(0));
        for (int c = 0; c < 6; c++) {
            due("none such yet", x.ask(c), BAD);
            due("number", x.creature(), c);
            due("without a tree", x.ask(c), STATE);
            due("no tree", x.count(c, 8), NONE);
            due("no node", x.told(c, 0, 0), BAD);
            if (c < 3) {
                x.give(c, 0);
            }
        }
        due("full", x.creature(), FULL);
        due("full still", x.creature(), FULL);
        due("six", x.all(2), 6);
        due("those that have trees", x.ticks(1), 3);
    }

    private static void give() {
        says("A CREATURE gets a whole TREE (NONE: none)");
        WishTrees x = new WishTrees();
        x.creature();
        x.creature();
        due("none, of none", x.give(0, NONE), 0);
        due("no tree yet", x.give(0, 0), BAD);
        x.tree();
        x.node(8, 0, 0, 0);
        due("not whole yet", x.give(0, 0), BAD);
        x.node(1, 4, 0, 0);
        due("whole", x.give(0, 0), 0);
        due("its number", x.count(0, 8), 0);
        int[] no = {LEAST, -5, -3, -2, -1, 1, 8, MOST};
        for (int t : no) {
            due("no tree " + t, x.give(0, t), BAD);
            due("it has its own still", x.count(0, 8), 0);
        }
        badOutside("give's creature", 0, 1, c -> x.give(c, 0));
        badOutside("give's creature, none", 0, 1, c -> x.give(c, NONE));
        due("the other has none", x.count(1, 8), NONE);
        x.tree();
        due("begun", x.give(0, 1), BAD);
        x.node(1, 4, 0, 1);
        due("the other's", x.give(1, 1), 0);
        due("number 1", x.count(1, 8), 1);
        x.ask(0);
        due("latest", x.told(0, 1, 0), FAILED);
        due("the same again", x.give(0, 0), 0);
        due("none since", x.told(0, 1, 0) + x.told(0, 1, 1), 0);
        due("another", x.give(0, 1), 0);
        due("its nodes", x.told(0, 1, 0), BAD);
        due("its first", x.told(0, 0, 0), 0);
        due("none", x.give(0, NONE), 0);
        due("none to ask", x.ask(0), STATE);
        due("no nodes", x.told(0, 0, 0), BAD);
    }

    private static void giveBreaksOff() {
        says("all its DOINGS under way are BROKEN OFF first, in order: how many.");
        for (int acts = 1; acts <= 5; acts++) {
            for (int to = NONE; to <= 1; to += to == NONE ? 4 : 1) {
                WishTrees x = new WishTrees();
                int[][] nodes = new int[acts + 2][];
                nodes[0] = beside(acts + 1, acts + 1);
                for (int i = 0; i < acts; i++) {
                    effective(x, 2 + i % 2, i, 1, 10 + i);
                    nodes[i + 1] = act(i);
                }
                int planned = effective(x, 3, 6, 1, 100);
                x.facts(planned, true, 2, 2);
                nodes[acts + 1] = wish(2, 2);
                int who = grow(x, nodes);
                plant(x, fact(0));
                due("none is under way", x.give(who, 0), 0);
                x.ask(who);
                due("all are under way, the plan's too", x.give(who, to), acts + 1);
                due("broken off", x.count(who, 2), acts + 1);
                for (int i = 0; i < acts; i++) {
                    due("finish of " + i, x.has(i, 1), 10 + i);
                }
                due("finish of the plan's", x.has(6, 1), 100);
                due("nothing is under way any more", x.give(who, 0), 0);
                x.ask(who);
                x.ask(who);
                due("those of three ticks", x.give(who, NONE), acts / 2 + 1);
                due("broken off in all", x.count(who, 2), acts + 1 + acts / 2 + 1);
                for (int i = 0; i < acts; i++) {
                    due("what came of " + i, x.has(i, 1), 10 + i + (i % 2 == 0 ? 1 : 10 + i));
                }
            }
        }
    }

    private static void ask() {
        says("A CREATURE's TICK: what its first NODE answered. BAD; STATE: it has no TREE.");
        WishTrees x = new WishTrees();
        badOutside("ask", 0, -1, x::ask);
        x.creature();
        due("no tree", x.ask(0), STATE);
        badOutside("ask of one", 0, 0, x::ask);
        x.doing(2, 0);
        plant(x, row(2), fact(0), act(0));
        x.give(0, 0);
        badOutside("ask beside a tree", 0, 0, x::ask);
        due("no tick yet", x.count(0, 0), 0);
        due("failed", x.ask(0), FAILED);
        x.world(1);
        due("under way", x.ask(0), UNDER_WAY);
        due("done", x.ask(0), DONE);
        due("three ticks", x.count(0, 0), 3);
        x.give(0, NONE);
        due("no tree any more", x.ask(0), STATE);
        due("no tick of that", x.count(0, 0), 3);
    }

    private static void ticks() {
        says("n (0 to 50) times TICKS of all CREATURES that have a TREE, by numbers: how many. BAD.");
        WishTrees x = new WishTrees();
        badOutside("ticks without creatures", 0, 50, x::ticks);
        due("none", x.ticks(50), 0);
        effective(x, 1, 0, 1, 0);
        plant(x, act(0));
        plant(x, row(2), n(1, 1, 0, 2), fact(0));
        for (int c = 0; c < 6; c++) {
            x.creature();
        }
        due("none has a tree", x.ticks(50), 0);
        int trees = 0;
        int sum = 0;
        int[] order = {5, 0, 3, 1};
        for (int c : order) {
            x.give(c, 0);
            trees++;
            int[] ns = {0, 1, 49, 50};
            for (int n : ns) {
                due(n + " times " + trees, x.ticks(n), n * trees);
                sum += n * trees;
                due("each asked", x.has(0, 1), sum);
            }
        }
        badOutside("ticks", 0, 50, x::ticks);
        due("none of those", x.has(0, 1), sum);
        due("ticks of 5", x.count(5, 0), 400);
        due("ticks of 1", x.count(1, 0), 100);
        due("ticks of 2", x.count(2, 0), 0);
        // by numbers: 0 makes 1, 2 finds the number 2 only behind 1
        x.give(3, NONE);
        x.give(5, NONE);
        x.give(2, 1);
        x.world(1);
        x.cell(0, 1, 0);
        due("three", x.ticks(1), 3);
        due("the third behind two", x.told(2, 0, 0), DONE);
        due("twice three", x.ticks(2), 6);
        due("not as many any more", x.told(2, 0, 0), FAILED);
        due("latest of the third", x.all(5), 2);
        due("its node", x.asked(0, 0), 1);
        x.give(2, NONE);
        x.give(4, 1);
        x.cell(0, 1, 0);
        x.ticks(1);
        due("behind 0 and 1", x.told(4, 0, 0), DONE);
    }

    private static void world() {
        says("FACTS become so: what they were. BAD: not 0 to 255.");
        WishTrees x = new WishTrees();
        int was = 0;
        int[] all = {255, 0, 1, 128, 254, 127, 255};
        for (int bits : all) {
            due("what they were", x.world(bits), was);
            badOutside("world", 0, 255, x::world);
            due("what they are", x.all(3), bits);
            was = bits;
        }
    }

    private static void cell() {
        says("A CELL gets a NUMBER (sort 1), a FLAG (2; on, if v is not 0), a ROW of v (0 to 6) zeros (3), NOTHING (0): 1. "
            + "BAD; -14: a ROW of less than 0.");
        WishTrees x = new WishTrees();
        x.cell(3, 1, 42);
        badOutside("cell's k", 0, 11, k -> x.cell(k, 1, 1));
        badOutside("cell's k, a row of less than 0", 0, 11, k -> x.cell(k, 3, -1));
        badOutside("cell's sort", 0, 3, s -> x.cell(3, s, 1));
        badOutside("cell's sort, less than 0", 0, 3, s -> x.cell(3, s, -1));
        long[] above = {7, 8, 1L << 31, 1L << 32, (1L << 32) + 3, Long.MAX_VALUE};
        for (long v : above) {
            due("a row of " + v, x.cell(3, 3, v), BAD);
        }
        long[] below = {-1, -2, LEAST, -1L << 32, (-1L << 32) + 3, Long.MIN_VALUE};
        for (long v : below) {
            due("a row of " + v, x.cell(3, 3, v), -14);
            due("not of a number", x.cell(4, 1, v), 1);
            due("not of a flag", x.cell(4, 2, v), 1);
            due("it is on", x.has(4, 1), 1);
            due("not of nothing", x.cell(4, 0, v), 1);
        }
        due("nothing of that came", x.has(3, 0) * 100 + x.has(3, 1), 142);
        // every sort behind every sort
        for (int first = 0; first < 4; first++) {
            for (int then = 0; then < 4; then++) {
                due("first " + first, x.cell(0, first, 6), 1);
                due("then " + then, x.cell(0, then, 5), 1);
                due("sort", x.has(0, 0), then);
                int[] what = {0, 5, 1, 5};
                due("what", x.has(0, 1), what[then]);
                due("as a row", x.row(0, 4, 1), then == 3 ? 1 : then == 0 ? -11 : -13);
            }
        }
        says("a ROW of v (0 to 6) zeros (3)");
        for (int length = 1; length <= 6; length++) {
            WishTrees y = new WishTrees();
            y.cell(0, 3, 6);
            for (int i = 0; i < 6; i++) {
                y.row(0, i, 1);
            }
            y.cell(0, 3, length);
            y.cell(0, 3, 0);
            y.cell(0, 3, length);
            int[][] nodes = new int[length + 1][];
            nodes[0] = els(length);
            for (int i = 0; i < length; i++) {
                nodes[i + 1] = n(1, 3, 0, i);
            }
            int who = grow(y, nodes);
            due("zeros alone", y.ask(who), FAILED);
            due("all were asked", y.all(5), length + 1);
            due("all are there", y.count(who, 4), 0);
        }
    }

    private static void row() {
        says("A CELL's ROW gets a number at a place: 1. BAD: k; FINDINGS: -10 less it (1 NOTHING, 3 no ROW, 2 no such place).");
        WishTrees x = new WishTrees();
        x.cell(1, 1, 3);
        x.cell(2, 2, 1);
        x.cell(3, 3, 0);
        x.cell(4, 3, 1);
        x.cell(5, 3, 6);
        int[] places = {LEAST, -2, -1, 0, 1, 5, 6, 7, 12, MOST};
        for (int i : places) {
            due("nothing at " + i, x.row(0, i, 9), -11);
            due("a number at " + i, x.row(1, i, 9), -13);
            due("a flag at " + i, x.row(2, i, 9), -13);
            due("an empty row at " + i, x.row(3, i, 9), -12);
            due("a row of one at " + i, x.row(4, i, 9), i == 0 ? 1 : -12);
            due("a row of six at " + i, x.row(5, i, 9), i >= 0 && i <= 5 ? 1 : -12);
            badOutside("row's cell at " + i, 0, 11, k -> x.row(k, i, 9));
        }
        due("no finding of a creature's", x.has(1, 1), 3);
        due("a row stays as long", x.has(5, 1), 6);
        due("no row came", x.has(0, 0), 0);
    }

    private static void has() {
        says("What a CELL has: 0 the sort, 1 its NUMBER, FLAG (1, 0), how long its ROW is, NOTHING 0. BAD -1 (of 1: 0).");
        WishTrees x = new WishTrees();
        x.cell(0, 1, -1);
        x.cell(11, 2, -7);
        int[] noCells = {LEAST, -4, -1, 12, MOST};
        for (int k : noCells) {
            due("sort of " + k, x.has(k, 0), BAD);
            due("what of " + k, x.has(k, 1), 0);
            due("else of " + k, x.has(k, 2), BAD);
        }
        int[] noWhats = {LEAST, -1, 2, 3, MOST};
        for (int what : noWhats) {
            due("what " + what, x.has(0, what), BAD);
            due("what " + what + " of nothing", x.has(5, what), BAD);
        }
        due("the number -1", x.has(0, 0) * 100 + x.has(0, 1), 99);
        due("the flag", x.has(11, 0) * 10 + x.has(11, 1), 21);
    }

    private static void told() {
        says("Of a CREATURE's NODE: 0 its latest answer (0: none since it has the TREE), 1 how often it was asked since, "
            + "2 its TICKS left, if a DOING of it is under way (else 0), 3 how often an AGAIN's PART was DONE since it began, "
            + "the PART that a MEMO goes on with (from 0), the place in its plan of a PLAN (NONE: no plan); others 0. BAD: "
            + "also no TREE.");
        WishTrees x = new WishTrees();
        learn(x, 3, 0, 0, 0, 2, 2);
        int bare = x.creature();
        // 0 beside, 1 row, 2 doing, 3 else, 4 test, 5 doing, 6 guard, 7 not, 8 doing, 9 beside, 10 again, 11 test,
        // 12 memo, 13 test, 14 doing, 15 plan
        int who = grow(x, beside(4, 4), row(1), act(0), els(2), fact(7), act(0), guard(0), not(), act(0),
            beside(3, 3), again(5), fact(0), memo(2), fact(0), act(0), wish(2, 2));
        for (int what = 0; what < 4; what++) {
            int w = what;
            badOutside("node, what " + w, 0, 15, n -> x.told(who, n, w));
            due("no tree, what " + w, x.told(bare, 0, w), BAD);
            badOutside("creature, what " + w, 0, 1, c -> x.told(c, 0, w));
        }
        badOutside("what", 0, 3, w -> x.told(who, 0, w));
        badOutside("what of a memo", 0, 3, w -> x.told(who, 12, w));
        for (int n = 0; n < 16; n++) {
            due("no answer of " + n, x.told(who, n, 0), 0);
            due("not asked " + n, x.told(who, n, 1), 0);
            due("nothing left of " + n, x.told(who, n, 2), 0);
            due("place of " + n, x.told(who, n, 3), n == 15 ? NONE : 0);
        }
        x.world(1);
        x.ticks(2);
        int[] answers = {3, 3, 3, 3, 2, 3, 3, 3, 3, 3, 3, 1, 3, 1, 3, 3};
        int[] thirds = {0, 0, 0, 0, 0, 0, 0, 0, 0, 0, 2, 0, 1, 0, 0, 0};
        for (int n = 0; n < 16; n++) {
            boolean acts = n == 2 || n == 5 || n == 8 || n == 14 || n == 15;
            due("answer of " + n, x.told(who, n, 0), answers[n]);
            due("asked " + n, x.told(who, n, 1), n == 13 ? 1 : 2);
            due("left of " + n, x.told(who, n, 2), acts ? 1 : 0);
            due("third of " + n, x.told(who, n, 3), thirds[n]);
        }
        x.give(who, NONE);
        due("no tree any more", x.told(who, 0, 0), BAD);
    }

    private static void asked() {
        says("Asking i of the latest TICK of any CREATURE: 0 the NODE, 1 what it answered; in the order in which they answered "
            + "(40 are told). BAD.");
        WishTrees x = new WishTrees();
        badOutside("asking of none", 0, -1, i -> x.asked(i, 0));
        int[][] nodes = new int[30][];
        nodes[0] = beside(4, 1);
        for (int i = 1; i < 25; i++) {
            // three times an else of six parts, of which the first is a NOT with one
            nodes[i] = i % 8 == 1 ? els(6) : i % 8 == 2 ? not() : fact(i % 8 == 3 ? 0 : 1);
        }
        nodes[25] = els(4);
        for (int i = 26; i < 30; i++) {
            nodes[i] = fact(1);
        }
        int many = grow(x, nodes);
        int few = grow(x, not(), fact(1));
        x.world(1);
        due("all fail", x.ask(many), FAILED);
        due("thirty", x.all(5), 30);
        int[] order = new int[30];
        int at = 0;
        for (int i = 1; i < 30; i += 8) {
            if (i < 25) {
                order[at++] = i + 2;
                order[at++] = i + 1;
            }
            for (int j = i + (i < 25 ? 3 : 1); j < i + 8 && j < 30; j++) {
                order[at++] = j;
            }
            order[at++] = i;
        }
        for (int i = 0; i < 30; i++) {
            boolean isDone = order[i] < 25 && order[i] % 8 == 3;
            due("node of asking " + i, x.asked(i, 0), order[i]);
            due("answer of asking " + i, x.asked(i, 1), isDone ? DONE : FAILED);
        }
        badOutside("asking", 0, 29, i -> x.asked(i, 0));
        badOutside("asking's answer", 0, 29, i -> x.asked(i, 1));
        badOutside("asking's what", 0, 1, w -> x.asked(0, w));
        due("no asking 40", x.asked(40, 0), BAD);
        due("the latest of any", x.ask(few), DONE);
        due("first", x.asked(0, 0) * 10 + x.asked(0, 1), 12);
        due("second", x.asked(1, 0) * 10 + x.asked(1, 1), 1);
        badOutside("asking of two", 0, 1, i -> x.asked(i, 0));
        // what is no tick leaves it
        x.give(many, 0);
        x.ask(9);
        x.ticks(0);
        x.ticks(51);
        x.give(few, NONE);
        x.ask(few);
        due("two still", x.all(5), 2);
        due("first still", x.asked(0, 0) * 10 + x.asked(0, 1), 12);
    }

    private static void count() {
        says("Of a CREATURE: 0 TICKS, 1 DOINGS DONE, 2 BROKEN OFF, 3 FAILED ones (DOINGS), 4 FINDINGS, 5 the latest one's "
            + "sort, 6 its NODE (NONE), 7 plans made, 8 its TREE (NONE). BAD.");
        WishTrees x = new WishTrees();
        badOutside("count of none", 0, -1, c -> x.count(c, 0));
        int bare = x.creature();
        learn(x, 1, 1, 1, 1, 2, 2);
        learn(x, 3, 1, 0, 0, 4, 4);
        plant(x, fact(0));
        int who = grow(x, beside(5, 5), act(0), act(1), n(1, 3, 11, 0), wish(8, 0), els(2), wish(2, 2), wish(4, 4));
        badOutside("count's creature", 0, 1, c -> x.count(c, 0));
        badOutside("count's tree", 0, 1, c -> x.count(c, 8));
        badOutside("count's what", 0, 8, w -> x.count(who, w));
        badOutside("count's what of a bare one", 0, 8, w -> x.count(bare, w));
        int[][] dues = {{0, 0, 0, 0, 0, 0, NONE, 0, 1}, {1, 0, 2, 1, 1, 1, 3, 1, 1}, {2, 1, 3, 1, 2, 1, 3, 1, 1}};
        for (int tick = 0; tick < 3; tick++) {
            for (int what = 0; what < 9; what++) {
                due("tick " + tick + " what " + what, x.count(who, what), dues[tick][what]);
            }
            if (tick < 2) {
                x.world(tick);
                due("fails, for the test finds nothing", x.ask(who), FAILED);
            }
        }
        int[] first = {0, 0, 0, 0, 0, 0, NONE, 0, NONE};
        for (int what = 0; what < 9; what++) {
            due("the bare one's " + what, x.count(bare, what), first[what]);
        }
        x.give(who, NONE);
        due("no tree", x.count(who, 8), NONE);
        due("the rest stays", x.count(who, 0) * 100 + x.count(who, 1) * 10 + x.count(who, 2), 213);
    }

    private static void all() {
        says("0 DOINGS, 1 TREES that are whole, 2 CREATURES, 3 FACTS, 4 NODES of the TREE that is begun (NONE: none), "
            + "5 askings of the latest TICK. BAD.");
        WishTrees x = new WishTrees();
        badOutside("all", 0, 5, x::all);
        for (int d = 0; d < 10; d++) {
            x.doing(1, 1);
            due("doings", x.all(0), d + 1);
        }
        x.doing(1, 1);
        due("ten at most", x.all(0), 10);
        for (int t = 0; t < 8; t++) {
            x.tree();
            due("not whole yet", x.all(1), t);
            due("begun without nodes", x.all(4), 0);
            x.node(6, 2, 0, 0);
            due("begun with one", x.all(4), 1);
            x.node(1, 4, 0, 0);
            due("whole", x.all(1), t + 1);
            due("none begun", x.all(4), NONE);
        }
        for (int c = 0; c < 6; c++) {
            x.creature();
            due("creatures", x.all(2), c + 1);
        }
        x.world(255);
        due("facts", x.all(3), 255);
        due("no askings", x.all(5), 0);
        x.give(0, 0);
        x.ticks(3);
        due("askings of one tick", x.all(5), 2);
        badOutside("all later", 0, 5, x::all);
    }

    private static void part() {
        says("Of NODE n of a whole TREE: 0 its kind, 1 a, 2 b, 3 c, 4 the NODE whose PART it is (NONE), 5 how many NODES it has "
            + "with all within. BAD.");
        WishTrees x = new WishTrees();
        badOutside("part of no tree", 0, -1, t -> x.part(t, 0, 0));
        x.doing(1, 1);
        int[][] told = {{2, 6, 0, 0}, {1, 0, 11, LEAST}, {5, 3, 5, MOST}, {6, 50, 0, 0}, {8, 0, 0, 0}, {0, 0, 0, 0},
            {3, 1, 0, 0}, {4, 2, 2, 0}, {9, 255, 255, 0}, {7, 1, 0, 0}, {9, 1, 0, 0}, {1, 2, 3, -4}, {7, 3, 0, 0},
            {1, 1, 0, 0}, {3, 2, 0, 0}, {1, 4, 0, 7}, {1, 4, 0, 0}, {8, 0, 0, 0}, {1, 3, 0, -1}, {0, 0, 0, 0}};
        int[] whose = {NONE, 0, 0, 2, 3, 4, 0, 6, 7, 7, 9, 0, 0, 12, 12, 14, 14, 12, 17, 0};
        int[] sizes = {20, 1, 4, 3, 2, 1, 5, 4, 1, 2, 1, 1, 7, 1, 3, 1, 1, 2, 1, 1};
        x.tree();
        for (int[] t : told) {
            due("not whole", x.part(0, 0, 0), BAD);
            x.node(t[0], t[1], t[2], t[3]);
        }
        for (int n = 0; n < 20; n++) {
            for (int what = 0; what < 4; what++) {
                due("node " + n + " what " + what, x.part(0, n, what), told[n][what]);
            }
            due("whose part " + n + " is", x.part(0, n, 4), whose[n]);
            due("size of " + n, x.part(0, n, 5), sizes[n]);
        }
        badOutside("part's tree", 0, 0, t -> x.part(t, 0, 0));
        badOutside("part's node", 0, 19, n -> x.part(0, n, 5));
        badOutside("part's what", 0, 5, w -> x.part(0, 0, w));
        x.tree();
        x.node(8, 0, 0, 0);
        due("a begun one", x.part(1, 0, 0), BAD);
        x.forget();
        due("a forgotten one", x.part(1, 0, 0), BAD);
        due("a tree of one", plant(x, fact(1)), 1);
        due("its size", x.part(1, 0, 5), 1);
        due("whose part", x.part(1, 0, 4), NONE);
        due("no node of the first tree's", x.part(1, 1, 0), BAD);
        // the deepest tree: each node is a part of the one before
        int chain = plant(x, under(29, fact(2)));
        for (int n = 0; n < 30; n++) {
            due("whose part in a chain", x.part(chain, n, 4), n == 0 ? NONE : n - 1);
            due("size in a chain", x.part(chain, n, 5), 30 - n);
        }
    }
}
