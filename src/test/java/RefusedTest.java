import java.util.ArrayList;
import java.util.List;

/**
 * What is refused changes nothing, and of what is refused the first that fits is answered: in a rich state each refused call
 * is made on an object of its own, which is held against one on which it was not made, at once and after the same further calls.
 */
public final class RefusedTest extends Checks {
    /** Calls that bring an object into a state, or on from there. */
    private interface Run {
        void on(WishTrees x);
    }

    private interface Refused {
        long on(WishTrees x);
    }

    private static List<Long> plainAtOnce;
    private static List<Long> plainLater;
    private static Run state;

    public static void main(String[] args) throws Exception {
        says("the first that fits; what is refused changes nothing.");
        fullState();
        whileATreeIsBegun();
        eightTrees();
        freeState();
        emptyState();
        end("RefusedTest", args);
    }

    private static void in(Run run) {
        state = run;
        plainAtOnce = seen(begun());
        plainLater = seen(later(begun()));
        due("the later is not the same", plainAtOnce.equals(plainLater) ? 1 : 0, 0);
    }

    private static WishTrees begun() {
        WishTrees x = new WishTrees();
        state.on(x);
        return x;
    }

    private static void refused(String call, int answer, Refused made) {
        WishTrees x = begun();
        due(call, made.on(x), answer);
        due(call + " twice", made.on(x), answer);
        same(call + ", at once", seen(x), plainAtOnce);
        WishTrees y = begun();
        due(call + " again", made.on(y), answer);
        same(call + ", later", seen(later(y)), plainLater);
    }

    private static void same(String call, List<Long> got, List<Long> want) {
        due(call + ", how much is seen", got.size(), want.size());
        for (int i = 0; i < Math.min(got.size(), want.size()); i++) {
            due(call + ", look " + i, got.get(i), want.get(i));
        }
    }

    /** Calls that tell what the state was: they go on with all that is under way, begun or not yet. */
    private static WishTrees later(WishTrees x) {
        x.doing(1, 1);
        x.facts(0, true, 4, 4);
        x.tree();
        x.node(1, 4, 0, 0);
        x.node(1, 4, 0, 1);
        x.creature();
        x.give(2, 1);
        x.ticks(1);
        x.world(x.all(3) ^ 1);
        x.ask(0);
        x.row(2, 1, 1);
        x.forget();
        return x;
    }

    private static List<Long> seen(WishTrees x) {
        List<Long> all = new ArrayList<>();
        for (int what = 0; what < 6; what++) {
            all.add((long) x.all(what));
        }
        for (int k = 0; k < 12; k++) {
            all.add(x.has(k, 0));
            all.add(x.has(k, 1));
        }
        for (int c = 0; c < 3; c++) {
            for (int what = 0; what < 9; what++) {
                all.add((long) x.count(c, what));
            }
        }
        for (int c = 0; c < 2; c++) {
            for (int n = 0; n < 12; n++) {
                for (int what = 0; what < 4; what++) {
                    all.add((long) x.told(c, n, what));
                }
            }
        }
        for (int i = 0; i < 3; i++) {
            all.add((long) x.plan(0, 10, i));
        }
        for (int i = 0; i < 13; i++) {
            all.add((long) x.asked(i, 0));
            all.add((long) x.asked(i, 1));
        }
        for (int t = 0; t < 3; t++) {
            all.add((long) x.part(t, 0, 0));
            all.add((long) x.part(t, 0, 5));
        }
        return all;
    }

    /** Ten doings, two trees, as many creatures as told; two have trees, with doings, a memo, an again, a plan under way. */
    private static void rich(WishTrees x, int doings, int creatures) {
        learn(x, 3, 1, 0, 0, 2, 2);
        learn(x, 1, 1, 0, 0, 64, 64);
        x.effect(0, 0, 5, 50);
        for (int d = 2; d < doings; d++) {
            x.doing(2, 100);
        }
        // 0 beside, 1 doing, 2 memo, 3 test, 4 doing, 5 again, 6 test, 7 not, 8 guard, 9 doing, 10 plan, 11 test
        plant(x, beside(6, 6), act(0), memo(2), fact(0), act(0), again(9), fact(0), not(), guard(0), act(0),
            wish(66, 66), n(1, 3, 5, 1));
        plant(x, row(2), fact(0), act(1));
        for (int c = 0; c < creatures; c++) {
            x.creature();
        }
        x.cell(1, 1, 7);
        x.cell(2, 3, 2);
        x.row(2, 0, 3);
        x.cell(3, 2, 1);
        x.cell(4, 3, 0);
        x.cell(5, 3, 2);
        x.row(5, 1, 3);
        x.world(1);
        x.give(0, 0);
        x.give(1, 1);
        x.ticks(2);
        x.ask(0);
        x.ask(1);
        x.give(0, 0);
        x.ask(0);
    }

    private static void commonRefusals() {
        refused("doing of 0 ticks", BAD, x -> x.doing(0, 1));
        refused("doing of cost 101", BAD, x -> x.doing(1, 101));
        refused("facts of no doing", BAD, x -> x.facts(10, true, 255, 255));
        refused("facts of mask 256", BAD, x -> x.facts(0, true, 256, 255));
        refused("facts of bits -1", BAD, x -> x.facts(0, false, 255, -1));
        refused("effect of no doing", BAD, x -> x.effect(-1, 1, 1, 1));
        refused("effect on no cell", BAD, x -> x.effect(0, 12, 1, 1));
        refused("node of no kind", BAD, x -> x.node(10, 0, 0, 0));
        refused("node of a bad c", BAD, x -> x.node(2, 1, 0, 1));
        refused("node of no doing", BAD, x -> x.node(0, 10, 0, 0));
        refused("give to nobody", BAD, x -> x.give(6, 0));
        refused("give to less than nobody", BAD, x -> x.give(-1, NONE));
        refused("give of no tree", BAD, x -> x.give(0, 8));
        refused("give of tree -1", BAD, x -> x.give(0, -1));
        refused("ask of nobody", BAD, x -> x.ask(6));
        refused("ticks of -1", BAD, x -> x.ticks(-1));
        refused("ticks of 51", BAD, x -> x.ticks(51));
        refused("world of -1", BAD, x -> x.world(-1));
        refused("world of 256", BAD, x -> x.world(256));
        refused("no cell", BAD, x -> x.cell(12, 1, 3));
        refused("cell of no sort", BAD, x -> x.cell(2, 4, 3));
        refused("cell of a row of 7", BAD, x -> x.cell(2, 3, 7));
        refused("cell of a row of -1", -14, x -> x.cell(2, 3, -1));
        refused("no cell's row of -1", BAD, x -> x.cell(-1, 3, -1));
        refused("row of no cell", BAD, x -> x.row(12, 0, 9));
        refused("row of nothing", -11, x -> x.row(11, 0, 9));
        refused("has of no cell", BAD, x -> x.has(12, 0));
        refused("has 1 of no cell", 0, x -> x.has(-1, 1));
        refused("told of nobody", BAD, x -> x.told(6, 0, 0));
        refused("told of what 4", BAD, x -> x.told(0, 0, 4));
        refused("asked of -1", BAD, x -> x.asked(-1, 0));
        refused("plan of nobody", BAD, x -> x.plan(6, 0, 0));
        refused("count of what 9", BAD, x -> x.count(0, 9));
        refused("all of 6", BAD, x -> x.all(6));
        refused("part of no tree", BAD, x -> x.part(8, 0, 0));
    }

    private static void richRefusals() {
        refused("facts beside a tree", STATE, x -> x.facts(0, true, 255, 255));
        refused("needs beside a tree", STATE, x -> x.facts(0, false, 255, 255));
        refused("effect beside a tree", STATE, x -> x.effect(0, 1, 9, 9));
        refused("effect on none beside a tree", STATE, x -> x.effect(0, NONE, 9, 9));
        refused("row's place -1", -12, x -> x.row(2, -1, 9));
        refused("row's place 2", -12, x -> x.row(2, 2, 9));
        refused("an empty row's place", -12, x -> x.row(4, 0, 9));
        refused("row of a number", -13, x -> x.row(1, 0, 9));
        refused("row of a flag", -13, x -> x.row(3, 0, 9));
        refused("told of no node", BAD, x -> x.told(0, 12, 0));
        refused("asked of more", BAD, x -> x.asked(40, 0));
        refused("asked of what 2", BAD, x -> x.asked(0, 2));
        refused("plan of no PLAN", BAD, x -> x.plan(0, 0, 0));
        refused("plan of none such", NONE, x -> x.plan(0, 10, 12));
        refused("part of no node", BAD, x -> x.part(0, 12, 0));
    }

    private static void fullState() {
        in(x -> rich(x, 10, 6));
        commonRefusals();
        richRefusals();
        refused("an eleventh doing", FULL, x -> x.doing(1, 1));
        refused("a seventh creature", FULL, x -> x.creature());
        refused("ask without a tree", STATE, x -> x.ask(2));
        refused("told without a tree", BAD, x -> x.told(2, 0, 0));
        refused("plan without a tree", BAD, x -> x.plan(2, 0, 0));
        refused("node without a tree", STATE, x -> x.node(8, 0, 0, 0));
        refused("a leaf without a tree", STATE, x -> x.node(1, 4, 0, 0));
        refused("forget without a tree", STATE, x -> x.forget());
    }

    private static void whileATreeIsBegun() {
        in(x -> {
            rich(x, 9, 5);
            x.tree();
            for (int i = 0; i < 28; i++) {
                x.node(8, 0, 0, 0);
            }
            x.node(4, 1, 1, 0);
        });
        commonRefusals();
        richRefusals();
        refused("a tree within a tree", STATE, x -> x.tree());
        refused("a node too many", FULL, x -> x.node(8, 0, 0, 0));
        refused("six nodes too many", FULL, x -> x.node(2, 6, 0, 0));
        refused("a bad one in a full tree", BAD, x -> x.node(4, 6, 7, 0));
        refused("give of the begun tree", BAD, x -> x.give(0, 2));
        refused("part of the begun tree", BAD, x -> x.part(2, 0, 0));
        in(x -> {
            rich(x, 9, 5);
            x.tree();
        });
        commonRefusals();
        refused("a tree within a bare tree", STATE, x -> x.tree());
    }

    private static void eightTrees() {
        in(x -> {
            rich(x, 10, 6);
            for (int t = 2; t < 8; t++) {
                plant(x, fact(t));
            }
        });
        commonRefusals();
        refused("a ninth tree", FULL, x -> x.tree());
        refused("a node behind eight", STATE, x -> x.node(1, 4, 0, 0));
        refused("forget behind eight", STATE, x -> x.forget());
    }

    private static void freeState() {
        in(x -> {
            rich(x, 4, 3);
            x.give(0, NONE);
            x.give(1, NONE);
        });
        commonRefusals();
        refused("facts of doing 4", BAD, x -> x.facts(4, true, 255, 255));
        refused("effect of doing 4", BAD, x -> x.effect(4, 1, 9, 9));
        refused("node of doing 4", BAD, x -> x.node(0, 4, 0, 0));
        refused("ask of the fourth", BAD, x -> x.ask(3));
        refused("ask of the first", STATE, x -> x.ask(0));
        refused("give of the third tree", BAD, x -> x.give(0, 2));
        refused("told", BAD, x -> x.told(0, 0, 0));
        refused("plan", BAD, x -> x.plan(0, 10, 0));
        refused("no ticks", 0, x -> x.ticks(50));
    }

    private static void emptyState() {
        in(x -> { });
        commonRefusals();
        refused("facts of nothing", BAD, x -> x.facts(0, true, 255, 255));
        refused("effect of nothing", BAD, x -> x.effect(0, 0, 255, 255));
        refused("node of no tree", STATE, x -> x.node(8, 0, 0, 0));
        refused("forget of no tree", STATE, x -> x.forget());
        refused("give of nothing to nobody", BAD, x -> x.give(0, NONE));
        refused("ask of nobody at all", BAD, x -> x.ask(0));
        refused("no ticks at all", 0, x -> x.ticks(50));
        refused("row of nothing at all", -11, x -> x.row(0, 0, 1));
        refused("asked of nobody", BAD, x -> x.asked(0, 0));
        refused("part of nothing", BAD, x -> x.part(0, 0, 0));
    }
}
