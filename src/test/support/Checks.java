import java.nio.file.Files;
import java.nio.file.Path;
import java.util.ArrayList;
import java.util.List;

/** What the tests share. A test that extends it names the document's sentences and holds answers against them. */
abstract class Checks {
    static final int BAD = -1, STATE = -2, FULL = -3, NONE = -4;
    static final int DONE = 1, FAILED = 2, UNDER_WAY = 3;
    static final int LEAST = Integer.MIN_VALUE, MOST = Integer.MAX_VALUE;

    private static final List<String> SENTENCES = new ArrayList<>();
    private static int wrong = 0;

    /** A call with one number left open. */
    interface Call {
        long with(int number);
    }

    /** The sentence of the document that the following answers are due to. */
    static void says(String sentence) {
        SENTENCES.add(sentence);
    }

    static void due(String call, long got, long want) {
        if (got != want) {
            wrong++;
            String sentence = SENTENCES.isEmpty() ? "" : " (\"" + SENTENCES.get(SENTENCES.size() - 1) + "\")";
            System.out.println(call + " answered " + got + ", due is " + want + sentence);
        }
    }

    /** Numbers just and far outside of low to high are BAD. */
    static void badOutside(String name, int low, int high, Call call) {
        int[] outside = {LEAST, LEAST + 1, low - 1, high + 1, high + 256, MOST - 1, MOST};
        for (int number : outside) {
            due(name + " of " + number, call.with(number), BAD);
        }
    }

    /** Every sentence that was named has to stand in the document, whose folder is beside the project's. */
    static void end(String test, String[] args) throws Exception {
        Path root = Path.of(args.length > 0 ? args[0] : ".");
        String document = plain(Files.readString(root.resolve("../shared/DOC.md")));
        for (String sentence : SENTENCES) {
            if (!document.contains(plain(sentence))) {
                wrong++;
                System.out.println("not in the document: " + sentence);
            }
        }
        if (wrong > 0) {
            System.out.println(test + ": " + wrong + " answers are not as due");
            System.exit(1);
        }
        System.out.println(test + ": all answers are as due");
    }

    private static String plain(String text) {
        return text.replaceAll("\\s+", " ").trim();
    }

    static int[] n(int kind, int a, int b, int c) {
        return new int[] {kind, a, b, c};
    }

    static int[] fact(int f) {
        return n(1, 4, 0, f);
    }

    static int[] act(int d) {
        return n(0, d, 0, 0);
    }

    static int[] row(int parts) {
        return n(2, parts, 0, 0);
    }

    static int[] els(int parts) {
        return n(3, parts, 0, 0);
    }

    static int[] beside(int parts, int m) {
        return n(4, parts, m, 0);
    }

    static int[] guard(int f) {
        return n(5, 4, 0, f);
    }

    static int[] again(int m) {
        return n(6, m, 0, 0);
    }

    static int[] memo(int parts) {
        return n(7, parts, 0, 0);
    }

    static int[] not() {
        return n(8, 0, 0, 0);
    }

    static int[] wish(int mask, int bits) {
        return n(9, mask, bits, 0);
    }

    /** As many NOTs, each within the one before, and behind them the nodes. */
    static int[][] under(int nots, int[]... nodes) {
        int[][] all = new int[nots + nodes.length][];
        for (int i = 0; i < all.length; i++) {
            all[i] = i < nots ? not() : nodes[i - nots];
        }
        return all;
    }

    /** Tells a tree; its number. */
    static int plant(WishTrees x, int[]... nodes) {
        int tree = x.tree();
        int last = 1;
        for (int[] n : nodes) {
            last = x.node(n[0], n[1], n[2], n[3]);
        }
        due("the tree is whole", last, 0);
        return tree;
    }

    /** Tells a tree and gives it to a new creature; the creature's number. */
    static int grow(WishTrees x, int[]... nodes) {
        int tree = plant(x, nodes);
        int creature = x.creature();
        due("give", x.give(creature, tree), 0);
        return creature;
    }

    /** A doing with needs and makes; its number. */
    static int learn(WishTrees x, int ticks, int cost, int needMask, int needs, int makeMask, int makes) {
        int d = x.doing(ticks, cost);
        due("needs", x.facts(d, false, needMask, needs), 1);
        due("makes", x.facts(d, true, makeMask, makes), 1);
        return d;
    }

    /** A doing with an effect; its number. */
    static int effective(WishTrees x, int ticks, int cell, int gain, int finish) {
        int d = x.doing(ticks, 0);
        due("effect", x.effect(d, cell, gain, finish), 1);
        return d;
    }

    /** The whole plan of a PLAN, and NONE behind it. */
    static void duePlan(String name, WishTrees x, int who, int node, int... doings) {
        for (int i = 0; i < doings.length; i++) {
            due(name + ", plan at " + i, x.plan(who, node, i), doings[i]);
        }
        due(name + ", behind the plan", x.plan(who, node, doings.length), NONE);
    }
}
