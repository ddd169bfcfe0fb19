/** Promises 1 to 9, 12 to 15, 20 and 21: what is told before and beside the TICKS. */
public final class BuildingTest extends Checks {
    public static void main(String[] args) throws Exception {
        newObject();
        doing();
        facts();
        effect();
        treeAndForget();
        nodeNumbers();
        nodeStateAndRoom();
        creatureAndGive();
        world();
        cell();
        row();
        has();
        all();
        part();
        end("BuildingTest", args);
    }

    private static void newObject() {
        WishTrees x = new WishTrees();
        for (int what = 0; what <= 3; what++) {
            due("1 all(" + what + ")", x.all(what), 0);
        }
        due("1 all(4)", x.all(4), NONE);
        due("1 all(5)", x.all(5), 0);
        for (int k = 0; k < 12; k++) {
            due("1 has(k, 0)", x.has(k, 0), 0);
            due("1 has(k, 1)", x.has(k, 1), 0);
        }
        due("1 asked", x.asked(0, 0), BAD);
        due("1 ticks", x.ticks(50), 0);
        WishTrees other = new WishTrees();
        x.doing(1, 1);
        x.world(7);
        due("1 another object's doings", other.all(0), 0);
        due("1 another object's facts", other.all(3), 0);
    }

    private static void doing() {
        WishTrees x = new WishTrees();
        due("2 no ticks", x.doing(0, 0), BAD);
        due("2 least ticks", x.doing(Integer.MIN_VALUE, 0), BAD);
        due("2 too many ticks", x.doing(21, 0), BAD);
        due("2 cost below", x.doing(1, -1), BAD);
        due("2 cost above", x.doing(1, 101), BAD);
        due("2 edge low", x.doing(1, 0), 0);
        due("2 edge high", x.doing(20, 100), 1);
        for (int i = 2; i < 10; i++) {
            due("2 number", x.doing(3, 3), i);
        }
        due("2 full", x.doing(3, 3), FULL);
        due("2 bad before full", x.doing(21, 3), BAD);
        due("2 count", x.all(0), 10);
        // without NEEDS, MAKES and a CELL
        leaf(x, 0);
        x.creature();
        x.give(0, 0);
        due("2 done at once", x.ask(0), 1);
        due("2 makes nothing", x.all(3), 0);
        due("2 no cell", x.has(0, 0), 0);
    }

    private static void leaf(WishTrees x, int d) {
        x.tree();
        x.node(0, d, 0, 0);
    }

    private static void facts() {
        WishTrees x = new WishTrees();
        due("3 no doing", x.facts(0, true, 0, 0), BAD);
        x.doing(1, 0);
        due("3 doing below", x.facts(-1, true, 0, 0), BAD);
        due("3 doing above", x.facts(1, false, 0, 0), BAD);
        due("3 mask above", x.facts(0, true, 256, 0), BAD);
        due("3 mask below", x.facts(0, false, -1, 0), BAD);
        due("3 bits above", x.facts(0, false, 0, 256), BAD);
        due("3 bits below", x.facts(0, true, 0, -1), BAD);
        due("3 bits beside the mask", x.facts(0, true, 3, 253), 1);
        due("3 all bits", x.facts(0, false, 255, 255), 1);
        due("3 needs anew", x.facts(0, false, 6, 5), 1);
        leaf(x, 0);
        x.creature();
        due("3 creature without a tree", x.facts(0, false, 6, 4), 1);
        x.give(0, 0);
        due("3 state", x.facts(0, false, 0, 0), STATE);
        due("3 bad before state", x.facts(1, false, 0, 0), BAD);
        due("3 bad mask before state", x.facts(0, false, 256, 0), BAD);
        due("3 needs are wanting", x.ask(0), 2);
        x.world(2);
        due("3 a bit of needs is 0", x.ask(0), 2);
        x.world(4 + 2 + 128);
        due("3 needs want a 0", x.ask(0), 2);
        x.world(4 + 2 + 128 - 2);
        due("3 needs hold", x.ask(0), 1);
        due("3 makes in the mask alone", x.all(3), 128 + 4 + 1);
        x.world(4 + 2 + 1 - 2);
        x.ask(0);
        due("3 makes again", x.all(3), 5);
        x.give(0, NONE);
        due("3 free again", x.facts(0, false, 0, 0), 1);
        due("3 makes zeros", x.facts(0, true, 5, 0), 1);
        x.give(0, 0);
        x.ask(0);
        due("3 made zeros", x.all(3), 0);
    }

    private static void effect() {
        WishTrees x = new WishTrees();
        due("4 no doing", x.effect(0, 0, 1, 1), BAD);
        x.doing(2, 0);
        due("4 doing below", x.effect(-1, 0, 1, 1), BAD);
        due("4 cell above", x.effect(0, 12, 1, 1), BAD);
        due("4 cell below", x.effect(0, -1, 1, 1), BAD);
        due("4 cell -5", x.effect(0, -5, 1, 1), BAD);
        due("4 cell", x.effect(0, 11, 1, 1), 1);
        due("4 none", x.effect(0, NONE, 1, 1), 1);
        due("4 again", x.effect(0, 0, Integer.MAX_VALUE, Integer.MIN_VALUE), 1);
        leaf(x, 0);
        x.creature();
        x.give(0, 0);
        due("4 state", x.effect(0, 0, 1, 1), STATE);
        due("4 bad before state", x.effect(0, 12, 1, 1), BAD);
        x.ask(0);
        due("4 no gain under way", x.has(0, 0), 0);
        x.ask(0);
        due("4 nothing becomes a number", x.has(0, 0), 1);
        due("4 gain", x.has(0, 1), Integer.MAX_VALUE);
        due("4 no finish behind done", x.count(0, 2), 0);
        x.cell(0, 1, Long.MAX_VALUE);
        x.ticks(2);
        due("4 wraps", x.has(0, 1), Long.MIN_VALUE + Integer.MAX_VALUE - 1);
        x.ask(0);
        due("4 broken off", x.give(0, NONE), 1);
        due("4 finish", x.has(0, 1), Long.MIN_VALUE + Integer.MAX_VALUE - 1 + Integer.MIN_VALUE);
        effectOnOthers();
    }

    private static void effectOnOthers() {
        WishTrees x = new WishTrees();
        x.doing(1, 0);
        x.effect(0, 5, 3, 4);
        leaf(x, 0);
        x.creature();
        x.give(0, 0);
        x.cell(5, 2, 0);
        x.ask(0);
        due("4 flag stays", x.has(5, 0), 2);
        due("4 flag stays off", x.has(5, 1), 0);
        x.cell(5, 3, 2);
        x.ask(0);
        due("4 row stays", x.has(5, 0), 3);
        due("4 row stays as long", x.has(5, 1), 2);
        due("4 no finding", x.count(0, 4), 0);
        x.give(0, NONE);
        x.effect(0, 5, 0, 0);
        x.give(0, 0);
        x.cell(5, 0, 0);
        x.ask(0);
        due("4 nothing becomes 0", x.has(5, 0), 1);
    }

    private static void treeAndForget() {
        WishTrees x = new WishTrees();
        x.doing(1, 0);
        due("7 none is begun", x.forget(), STATE);
        due("5 first", x.tree(), 0);
        due("5 begun", x.tree(), STATE);
        due("7 without nodes", x.forget(), 0);
        due("5 same number", x.tree(), 0);
        x.node(2, 2, 0, 0);
        x.node(2, 2, 0, 0);
        due("7 with nodes", x.forget(), 2);
        due("7 forgotten", x.all(4), NONE);
        due("7 twice", x.forget(), STATE);
        for (int i = 0; i < 8; i++) {
            due("5 number", x.tree(), i);
            due("6 starts anew", x.node(2, 1, 0, 0), 1);
            due("6 whole", x.node(0, 0, 0, 0), 0);
            due("7 nothing of the forgotten is left", x.part(i, 0, 5), 2);
        }
        due("5 full", x.tree(), FULL);
        due("5 whole trees", x.all(1), 8);
        due("7 whole is not forgotten", x.forget(), STATE);
    }

    private static void nodeNumbers() {
        WishTrees x = new WishTrees();
        x.doing(1, 0);
        x.tree();
        x.node(2, 6, 0, 0);
        x.node(2, 6, 0, 0);
        int[][] bad = {
            {-1, 0, 0, 0}, {10, 0, 0, 0}, {0, 1, 0, 0}, {0, -1, 0, 0}, {0, 0, 1, 0}, {0, 0, 0, 1},
            {1, -1, 0, 0}, {1, 5, 0, 0}, {1, 0, 12, 0}, {1, 0, -1, 0}, {1, 3, 12, 0}, {1, 4, 1, 0},
            {1, 4, 0, -1}, {1, 4, 0, 8}, {5, -1, 0, 0}, {5, 5, 0, 0}, {5, 2, 12, 0}, {5, 4, 0, 8},
            {2, 0, 0, 0}, {2, 7, 0, 0}, {2, 1, 1, 0}, {2, 1, 0, 1}, {3, 0, 0, 0}, {3, 7, 0, 0}, {3, 1, 1, 0},
            {3, 1, 0, 1}, {7, 0, 0, 0}, {7, 7, 0, 0}, {7, 1, 1, 0}, {7, 1, 0, 1},
            {4, 0, 0, 0}, {4, 7, 1, 0}, {4, 3, 0, 0}, {4, 3, 4, 0}, {4, 3, 3, 1},
            {6, 0, 0, 0}, {6, 51, 0, 0}, {6, 1, 1, 0}, {6, 1, 0, 1}, {8, 1, 0, 0}, {8, 0, 1, 0}, {8, 0, 0, 1},
            {9, 0, 0, 0}, {9, 256, 0, 0}, {9, -1, 0, 0}, {9, 1, -1, 0}, {9, 1, 256, 0}, {9, 1, 1, 1}};
        for (int[] n : bad) {
            due("6 bad " + n[0] + " " + n[1] + " " + n[2] + " " + n[3], x.node(n[0], n[1], n[2], n[3]), BAD);
        }
        due("6 changed nothing", x.all(4), 2);
        int[][] good = {
            {0, 0, 0, 0}, {1, 0, 11, Integer.MIN_VALUE}, {1, 1, 0, Integer.MAX_VALUE}, {1, 2, 3, 77}, {1, 3, 3, -1},
            {1, 3, 3, 99}};
        int due = 11;
        for (int[] n : good) {
            due--;
            due("6 good " + n[0] + " " + n[1], x.node(n[0], n[1], n[2], n[3]), due);
        }
        int[][] more = {{1, 4, 0, 7}, {9, 255, 0, 0}, {9, 1, 255, 0}};
        for (int[] n : more) {
            due--;
            due("6 more " + n[0] + " " + n[1], x.node(n[0], n[1], n[2], n[3]), due);
        }
        int[][] single = {{5, 4, 0, 0}, {5, 3, 11, -7}, {6, 1, 0, 0}, {6, 50, 0, 0}, {8, 0, 0, 0}, {4, 1, 1, 0}};
        for (int[] n : single) {
            due("6 one part " + n[0], x.node(n[0], n[1], n[2], n[3]), due);
        }
        due("6 beside of six", x.node(4, 6, 6, 0), due + 5);
        due("6 how many nodes", x.all(4), 18);
    }

    private static void nodeStateAndRoom() {
        WishTrees x = new WishTrees();
        due("6 none is begun", x.node(8, 0, 0, 0), STATE);
        due("6 bad before state", x.node(8, 0, 0, 1), BAD);
        x.tree();
        for (int i = 0; i < 29; i++) {
            due("6 a chain", x.node(8, 0, 0, 0), 1);
        }
        due("6 full", x.node(8, 0, 0, 0), FULL);
        due("6 full of two", x.node(2, 2, 0, 0), FULL);
        due("6 bad before full", x.node(2, 7, 0, 0), BAD);
        due("6 the 30th", x.node(1, 4, 0, 0), 0);
        due("6 whole", x.all(1), 1);
        due("6 no more begun", x.node(1, 4, 0, 0), STATE);
        x.creature();
        x.give(0, 0);
        due("6 a chain of 29 answers", x.ask(0), 1);
        due("6 30 askings", x.all(5), 30);
        x.tree();
        for (int i = 0; i < 4; i++) {
            x.node(2, 6, 0, 0);
        }
        due("6 5 more make 30", x.node(2, 5, 0, 0), 25);
        due("6 no part has room", x.node(2, 1, 0, 0), FULL);
        due("6 but leaves have", x.node(1, 4, 0, 0), 24);
    }

    private static void creatureAndGive() {
        WishTrees x = new WishTrees();
        due("9 no creature", x.give(0, NONE), BAD);
        for (int i = 0; i < 6; i++) {
            due("8 number", x.creature(), i);
            due("8 no tree", x.count(i, 8), NONE);
            due("8 nothing to ask", x.ask(i), STATE);
        }
        due("8 full", x.creature(), FULL);
        due("8 how many", x.all(2), 6);
        due("9 no tree", x.give(0, 0), BAD);
        due("9 none", x.give(0, NONE), 0);
        x.doing(5, 0);
        x.doing(5, 0);
        x.effect(0, 0, 0, 1);
        x.effect(1, 1, 0, 10);
        x.tree();
        x.node(4, 2, 2, 0);
        x.node(0, 0, 0, 0);
        due("9 not whole", x.give(0, 0), BAD);
        x.node(0, 1, 0, 0);
        due("9 whole", x.give(0, 0), 0);
        due("9 tree below", x.give(0, -1), BAD);
        due("9 tree above", x.give(0, 1), BAD);
        due("9 creature below", x.give(-1, 0), BAD);
        due("9 creature above", x.give(6, 0), BAD);
        x.ticks(2);
        due("9 refused changes nothing", x.told(0, 1, 2), 3);
        due("9 both broken off", x.give(0, 0), 2);
        due("9 finish", x.has(0, 1), 1);
        due("9 finish of both", x.has(1, 1), 10);
        due("9 counts stay", x.count(0, 0), 2);
        due("9 broken off", x.count(0, 2), 2);
        due("9 anew", x.told(0, 0, 0), 0);
        due("9 anew asked", x.told(0, 1, 1), 0);
        due("9 anew ticks", x.told(0, 1, 2), 0);
        due("9 latest tick stays told", x.all(5), 3);
        x.give(1, 0);
        x.ticks(1);
        due("9 two creatures have one tree", x.told(0, 1, 2), 4);
        due("9 each its own", x.give(1, NONE), 2);
        due("9 the other goes on", x.told(0, 1, 2), 4);
        due("9 facts are held", x.facts(0, true, 0, 0), STATE);
    }

    private static void world() {
        WishTrees x = new WishTrees();
        due("12 first", x.world(255), 0);
        due("12 below", x.world(-1), BAD);
        due("12 above", x.world(256), BAD);
        due("12 was", x.world(0), 255);
        due("12 is", x.all(3), 0);
    }

    private static void cell() {
        WishTrees x = new WishTrees();
        due("13 below", x.cell(-1, 1, 1), BAD);
        due("13 above", x.cell(12, 1, 1), BAD);
        due("13 sort below", x.cell(0, -1, 1), BAD);
        due("13 sort above", x.cell(0, 4, 1), BAD);
        due("13 row too long", x.cell(0, 3, 7), BAD);
        due("13 row far too long", x.cell(0, 3, 1L << 32), BAD);
        due("13 row below", x.cell(0, 3, -1), -14);
        due("13 row far below", x.cell(0, 3, Long.MIN_VALUE), -14);
        due("13 bad before -14", x.cell(12, 3, -1), BAD);
        due("13 nothing was changed", x.has(0, 0), 0);
        due("13 number", x.cell(0, 1, Long.MIN_VALUE), 1);
        due("13 number is", x.has(0, 1), Long.MIN_VALUE);
        due("13 flag on", x.cell(0, 2, 1L << 32), 1);
        due("13 flag is on", x.has(0, 1), 1);
        due("13 flag off", x.cell(0, 2, 0), 1);
        due("13 flag is off", x.has(0, 1), 0);
        due("13 row", x.cell(0, 3, 6), 1);
        due("13 row is", x.has(0, 1), 6);
        for (int i = 0; i < 6; i++) {
            x.row(0, i, 3);
        }
        due("13 row anew", x.cell(0, 3, 6), 1);
        x.tree();
        x.node(3, 6, 0, 0);
        for (int i = 0; i < 6; i++) {
            x.node(1, 3, 0, i);
        }
        x.creature();
        x.give(0, 0);
        due("13 zeros", x.ask(0), 2);
        due("13 all were asked", x.all(5), 7);
        due("13 zeros without a finding", x.count(0, 4), 0);
        due("13 empty row", x.cell(0, 3, 0), 1);
        due("13 is empty", x.has(0, 0) * 10 + x.has(0, 1), 30);
        x.cell(0, 1, 8);
        due("13 nothing, v not looked at", x.cell(0, 0, -9), 1);
        due("13 nothing is", x.has(0, 0), 0);
        due("13 nothing has 0", x.has(0, 1), 0);
    }

    private static void row() {
        WishTrees x = new WishTrees();
        due("14 below", x.row(-1, 0, 0), BAD);
        due("14 above", x.row(12, 0, 0), BAD);
        due("14 nothing", x.row(0, 99, 0), -11);
        x.cell(0, 1, 6);
        due("14 number", x.row(0, 99, 0), -13);
        x.cell(0, 2, 6);
        due("14 flag", x.row(0, 0, 0), -13);
        x.cell(0, 3, 0);
        due("14 empty", x.row(0, 0, 1), -12);
        x.cell(0, 3, 2);
        x.cell(1, 3, 2);
        due("14 place below", x.row(0, -1, 1), -12);
        due("14 place above", x.row(0, 2, 1), -12);
        due("14 place", x.row(0, 1, 1), 1);
        x.tree();
        x.node(4, 4, 1, 0);
        x.node(1, 3, 0, 0);
        x.node(1, 3, 0, 1);
        x.node(1, 3, 1, 0);
        x.node(1, 3, 1, 1);
        x.creature();
        x.give(0, 0);
        x.ask(0);
        due("14 beside it", x.told(0, 1, 0), 2);
        due("14 it", x.told(0, 2, 0), 1);
        due("14 another row", x.told(0, 3, 0), 2);
        due("14 another row's place", x.told(0, 4, 0), 2);
        x.row(0, 1, -5);
        x.row(0, 0, Integer.MAX_VALUE);
        x.ask(0);
        due("14 changed", x.told(0, 1, 0), 1);
        due("14 below 0", x.told(0, 2, 0), 2);
    }

    private static void has() {
        WishTrees x = new WishTrees();
        x.cell(3, 1, -5);
        due("15 sort", x.has(3, 0), 1);
        due("15 number", x.has(3, 1), -5);
        due("15 what above", x.has(3, 2), BAD);
        due("15 what below", x.has(3, -1), BAD);
        due("15 no cell, 0", x.has(12, 0), BAD);
        due("15 no cell, 1", x.has(12, 1), 0);
        due("15 cell below, 1", x.has(-1, 1), 0);
        due("15 no cell, 2", x.has(12, 2), BAD);
    }

    private static void all() {
        WishTrees x = new WishTrees();
        due("20 below", x.all(-1), BAD);
        due("20 above", x.all(6), BAD);
        x.doing(1, 1);
        x.doing(1, 1);
        x.world(9);
        x.creature();
        due("20 doings", x.all(0), 2);
        due("20 creatures", x.all(2), 1);
        due("20 facts", x.all(3), 9);
        x.tree();
        due("20 begun without nodes", x.all(4), 0);
        x.node(8, 0, 0, 0);
        due("20 begun", x.all(4), 1);
        due("20 not whole", x.all(1), 0);
        x.node(0, 0, 0, 0);
        due("20 no more begun", x.all(4), NONE);
        due("20 whole", x.all(1), 1);
        x.give(0, 0);
        x.ask(0);
        due("20 askings", x.all(5), 2);
    }

    private static void part() {
        WishTrees x = new WishTrees();
        x.doing(1, 1);
        due("21 no tree", x.part(0, 0, 0), BAD);
        x.tree();
        int[][] told = {
            {2, 3, 0, 0}, {4, 2, 1, 0}, {8, 0, 0, 0}, {0, 0, 0, 0}, {6, 7, 0, 0}, {9, 5, 4, 0}, {5, 3, 11, -2},
            {7, 1, 0, 0}, {1, 1, 2, 3}, {3, 1, 0, 0}, {1, 4, 0, 6}};
        int[] parents = {NONE, 0, 1, 2, 1, 4, 0, 6, 7, 0, 9};
        int[] sizes = {11, 5, 2, 1, 2, 1, 3, 2, 1, 2, 1};
        for (int[] n : told) {
            due("21 not whole", x.part(0, 0, 0), BAD);
            x.node(n[0], n[1], n[2], n[3]);
        }
        for (int n = 0; n < told.length; n++) {
            for (int what = 0; what < 4; what++) {
                due("21 node " + n + " what " + what, x.part(0, n, what), told[n][what]);
            }
            due("21 parent of " + n, x.part(0, n, 4), parents[n]);
            due("21 size of " + n, x.part(0, n, 5), sizes[n]);
        }
        due("21 node above", x.part(0, 11, 0), BAD);
        due("21 node below", x.part(0, -1, 0), BAD);
        due("21 what above", x.part(0, 0, 6), BAD);
        due("21 what below", x.part(0, 0, -1), BAD);
        due("21 tree above", x.part(1, 0, 0), BAD);
        due("21 tree below", x.part(-1, 0, 0), BAD);
        due("21 none", x.part(NONE, 0, 0), BAD);
    }
}
