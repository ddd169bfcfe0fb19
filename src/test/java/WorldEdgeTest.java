/** The edges that "Terms" names of FACTS, CELLS, DOINGS and TESTS, a sentence at a time. */
public final class WorldEdgeTest extends Checks {
    /** What is done to a new object before a TEST in it is asked. */
    private interface Start {
        void on(WishTrees x);
    }

    public static void main(String[] args) throws Exception {
        eightFacts();
        twelveCells();
        numbersAndFlags();
        rowsOfEachLength();
        tenDoings();
        ticksOfDoings();
        costsOfDoings();
        needs();
        makes();
        gainComes();
        finishComes();
        noCell();
        aboveAndIs();
        flagIsOn();
        rowHasAboveZero();
        factIsOne();
        findings();
        findingsComeAndGo();
        end("WorldEdgeTest", args);
    }

    private static void eightFacts() {
        says("1 FACTS: eight bits (0 at first).");
        WishTrees x = new WishTrees();
        due("facts at first", x.all(3), 0);
        int who = grow(x, beside(2, 1), beside(4, 1), fact(0), fact(1), fact(2), fact(3),
            beside(4, 1), fact(4), fact(5), fact(6), fact(7));
        int[] nodes = {2, 3, 4, 5, 7, 8, 9, 10};
        due("no fact at first", x.ask(who), FAILED);
        for (int f = 0; f < 8; f++) {
            due("fact " + f + " alone", x.world(1 << f), f == 0 ? 0 : 1 << f - 1);
            due("one of eight", x.ask(who), DONE);
            for (int g = 0; g < 8; g++) {
                due("fact " + g + " of " + (1 << f), x.told(who, nodes[g], 0), f == g ? DONE : FAILED);
            }
        }
        due("all eight", x.world(255), 128);
        due("a ninth", x.world(256), BAD);
        due("eight stay", x.all(3), 255);
    }

    private static void twelveCells() {
        says("CELLS 0 to 11, each has NOTHING (at first), a NUMBER (a long), a FLAG, or a ROW of 0 to 6 ints.");
        WishTrees x = new WishTrees();
        for (int k = 0; k < 12; k++) {
            due("nothing at first in " + k, x.has(k, 0), 0);
            due("a number into " + k, x.cell(k, 1, 100 + k), 1);
        }
        for (int k = 0; k < 12; k++) {
            due("number of " + k, x.has(k, 1), 100 + k);
        }
        badOutside("has(.., 0)", 0, 11, k -> x.has(k, 0));
        badOutside("cell", 0, 11, k -> x.cell(k, 1, 7));
        badOutside("row", 0, 11, k -> x.row(k, 0, 7));
        for (int k = 0; k < 12; k++) {
            due("still in " + k, x.has(k, 1), 100 + k);
            due("a row into " + k, x.cell(k, 3, 6), 1);
            for (int i = 0; i < 6; i++) {
                due("place " + i + " of " + k, x.row(k, i, 1 + (k + i) % 2), 1);
            }
        }
        // a new row of one cell leaves those beside it
        x.cell(0, 3, 6);
        x.cell(5, 3, 6);
        x.cell(11, 3, 6);
        int[] cells = {0, 1, 4, 5, 6, 10, 11};
        for (int start = 0; start < 6; start += 5) {
            int who = grow(x, beside(2, 1), beside(4, 1), inRow(cells[0], start), inRow(cells[1], start),
                inRow(cells[2], start), inRow(cells[3], start),
                beside(3, 1), inRow(cells[4], start), inRow(cells[5], start), inRow(cells[6], start));
            x.ask(who);
            int[] nodes = {2, 3, 4, 5, 7, 8, 9};
            for (int i = 0; i < cells.length; i++) {
                boolean anew = cells[i] % 5 == 0 && cells[i] != 10 || cells[i] == 11;
                due("place " + start + " of cell " + cells[i], x.told(who, nodes[i], 0), anew ? FAILED : DONE);
            }
        }
    }

    private static int[] inRow(int cell, int place) {
        return n(1, 3, cell, place);
    }

    private static void numbersAndFlags() {
        says("each has NOTHING (at first), a NUMBER (a long), a FLAG,");
        WishTrees x = new WishTrees();
        long[] numbers = {Long.MIN_VALUE, Long.MIN_VALUE + 1, -1L << 32, -1, 0, 1, 1L << 31, 1L << 32, Long.MAX_VALUE};
        for (long v : numbers) {
            due("number " + v, x.cell(11, 1, v), 1);
            due("is a number", x.has(11, 0), 1);
            due("has " + v, x.has(11, 1), v);
            due("flag by " + v, x.cell(11, 2, v), 1);
            due("is a flag", x.has(11, 0), 2);
            due("on by " + v, x.has(11, 1), v == 0 ? 0 : 1);
            due("nothing, " + v + " is not looked at", x.cell(11, 0, v), 1);
            due("is nothing", x.has(11, 0), 0);
            due("nothing has 0", x.has(11, 1), 0);
        }
    }

    private static void rowsOfEachLength() {
        says("or a ROW of 0 to 6 ints");
        for (int length = 0; length <= 6; length++) {
            WishTrees x = new WishTrees();
            due("row of " + length, x.cell(11, 3, length), 1);
            due("is a row", x.has(11, 0), 3);
            due("is so long", x.has(11, 1), length);
            for (int i = 0; i < length; i++) {
                due("place " + i + " of " + length, x.row(11, i, i % 2 == 0 ? MOST : LEAST), 1);
            }
            int[] none = {LEAST, -1, length, length + 1, 6, MOST};
            for (int i : none) {
                due("no place " + i + " of " + length, x.row(11, i, 1), -12);
            }
            due("as long as before", x.has(11, 1), length);
            for (int i = 0; i < 6; i++) {
                dueTest("place " + i + " of " + length, furnishedRow(length), n(1, 3, 11, i),
                    i < length && i % 2 == 0 ? DONE : FAILED, i < length ? 0 : 2);
            }
        }
    }

    private static Start furnishedRow(int length) {
        return x -> {
            x.cell(11, 3, length);
            for (int i = 0; i < length; i++) {
                x.row(11, i, i % 2 == 0 ? MOST : LEAST);
            }
        };
    }

    private static void tenDoings() {
        says("DOINGS (10), numbered as they come");
        WishTrees x = new WishTrees();
        for (int d = 0; d < 10; d++) {
            due("doing " + d, effective(x, 2, d + 2, 100 + d, -100 - d), d);
            due("makes of " + d, x.facts(d, true, 1 << d % 8, 255), 1);
            due("needs of " + d, x.facts(d, false, 0, 255), 1);
        }
        due("an eleventh", x.doing(1, 0), FULL);
        due("ten", x.all(0), 10);
        int who = grow(x, beside(2, 2), beside(5, 5), act(0), act(1), act(2), act(3), act(4),
            beside(5, 5), act(5), act(6), act(7), act(8), act(9));
        due("all begin", x.ask(who), UNDER_WAY);
        due("all broken off", x.give(who, 0), 10);
        for (int d = 0; d < 10; d++) {
            due("finish of " + d, x.has(d + 2, 1), -100 - d);
        }
        due("none made yet", x.all(3), 0);
        x.ask(who);
        due("all done", x.ask(who), DONE);
        for (int d = 0; d < 10; d++) {
            due("gain of " + d, x.has(d + 2, 1), 0);
        }
        due("all made", x.all(3), 255);
        due("ten are done", x.count(who, 1), 10);
    }

    private static void ticksOfDoings() {
        says("TICKS (1 to 20)");
        for (int ticks = 1; ticks <= 20; ticks++) {
            WishTrees x = new WishTrees();
            due("a doing of " + ticks, x.doing(ticks, 0), 0);
            int who = grow(x, act(0));
            for (int round = 0; round < 2; round++) {
                for (int i = 1; i < ticks; i++) {
                    due(i + " of " + ticks, x.ask(who), UNDER_WAY);
                    due("left behind " + i + " of " + ticks, x.told(who, 0, 2), ticks - i);
                }
                due("the last of " + ticks, x.ask(who), DONE);
                due("none left", x.told(who, 0, 2), 0);
            }
        }
        WishTrees x = new WishTrees();
        badOutside("ticks", 1, 20, t -> x.doing(t, 0));
        due("none came", x.all(0), 0);
    }

    private static void costsOfDoings() {
        says("COST (0 to 100)");
        WishTrees x = new WishTrees();
        badOutside("cost", 0, 100, c -> x.doing(1, c));
        due("none came", x.all(0), 0);
        int[][] pairs = {{0, 1}, {1, 2}, {99, 100}, {0, 100}};
        for (int[] pair : pairs) {
            WishTrees y = new WishTrees();
            learn(y, 2, pair[1], 0, 0, 1, 1);
            learn(y, 2, pair[0], 0, 0, 1, 1);
            int who = grow(y, wish(1, 1));
            y.ask(who);
            duePlan("cost " + pair[0] + " before " + pair[1], y, who, 0, 1);
        }
    }

    private static final int[] MASKS = {0, 1, 128, 170, 255};
    private static final int[] BITS = {0, 1, 85, 128, 170, 255};

    private static void needs() {
        says("NEEDS hold, if FACTS have these bits where the mask has 1");
        for (int mask : MASKS) {
            for (int bits : BITS) {
                WishTrees x = new WishTrees();
                learn(x, 1, 0, mask, bits, 0, 0);
                int who = grow(x, act(0));
                for (int facts = 0; facts < 256; facts += facts < 3 || facts > 250 ? 1 : 7) {
                    x.world(facts);
                    boolean hold = true;
                    for (int f = 0; f < 8; f++) {
                        hold &= (mask >> f) % 2 == 0 || (bits >> f) % 2 == (facts >> f) % 2;
                    }
                    due("needs " + mask + " " + bits + " in " + facts, x.ask(who), hold ? DONE : FAILED);
                }
            }
        }
    }

    private static void makes() {
        says("MAKES: FACTS get them there");
        for (int mask : MASKS) {
            for (int bits : BITS) {
                WishTrees x = new WishTrees();
                learn(x, 1, 0, 0, 0, mask, bits);
                int who = grow(x, act(0));
                for (int facts = 0; facts < 256; facts += facts < 3 || facts > 250 ? 1 : 7) {
                    x.world(facts);
                    x.ask(who);
                    int made = 0;
                    for (int f = 0; f < 8; f++) {
                        made += ((mask >> f) % 2 == 1 ? (bits >> f) % 2 : (facts >> f) % 2) << f;
                    }
                    due("makes " + mask + " " + bits + " in " + facts, x.all(3), made);
                }
            }
        }
    }

    private static final long[] NUMBERS = {Long.MIN_VALUE, Long.MIN_VALUE + 1, -1, 0, 1, MOST, Long.MAX_VALUE};
    private static final int[] INTS = {LEAST, -1, 0, 1, MOST};

    private static void gainComes() {
        says("GAIN, FINISH come to that CELL: a NUMBER becomes so much more (wrapping), NOTHING becomes that NUMBER, "
            + "with others nothing is done.");
        for (int gain : INTS) {
            WishTrees x = new WishTrees();
            effective(x, 1, 11, gain, 77);
            int who = grow(x, act(0));
            for (long v : NUMBERS) {
                x.cell(11, 1, v);
                x.ask(who);
                due(v + " gains " + gain, x.has(11, 1), v + gain);
                due("is a number", x.has(11, 0), 1);
            }
            x.cell(11, 0, 0);
            x.ask(who);
            due("nothing becomes a number", x.has(11, 0), 1);
            due("nothing becomes " + gain, x.has(11, 1), gain);
            for (int on = 0; on < 2; on++) {
                x.cell(11, 2, on);
                x.ask(who);
                due("a flag stays by " + gain, x.has(11, 0) * 10 + x.has(11, 1), 20 + on);
            }
            x.cell(11, 3, 3);
            x.ask(who);
            due("a row stays by " + gain, x.has(11, 0) * 10 + x.has(11, 1), 33);
            due("in no other cell", x.has(10, 0), 0);
        }
        int[] places = {FAILED, DONE, FAILED};
        for (int i = 0; i < 3; i++) {
            int place = i;
            WishTrees x = new WishTrees();
            effective(x, 1, 0, 5, 5);
            x.cell(0, 3, 3);
            x.row(0, 1, 1);
            int who = grow(x, row(2), act(0), inRow(0, place));
            due("a row's place " + i + " stays", x.ask(who), places[i]);
        }
    }

    private static void finishComes() {
        says("GAIN, FINISH come to that CELL: a NUMBER becomes so much more (wrapping), NOTHING becomes that NUMBER, "
            + "with others nothing is done.");
        for (int finish : INTS) {
            WishTrees x = new WishTrees();
            effective(x, 2, 0, 77, finish);
            int who = grow(x, act(0));
            for (long v : NUMBERS) {
                x.cell(0, 1, v);
                breakOff(x, who);
                due(v + " finishes by " + finish, x.has(0, 1), v + finish);
            }
            x.cell(0, 0, 0);
            breakOff(x, who);
            due("nothing becomes a number", x.has(0, 0), 1);
            due("nothing becomes " + finish, x.has(0, 1), finish);
            for (int on = 0; on < 2; on++) {
                x.cell(0, 2, on);
                breakOff(x, who);
                due("a flag stays by " + finish, x.has(0, 0) * 10 + x.has(0, 1), 20 + on);
            }
            x.cell(0, 3, 0);
            breakOff(x, who);
            due("an empty row stays by " + finish, x.has(0, 0) * 10 + x.has(0, 1), 30);
            due("in no other cell", x.has(1, 0), 0);
        }
    }

    private static void breakOff(WishTrees x, int who) {
        due("under way", x.ask(who), UNDER_WAY);
        due("broken off", x.give(who, 0), 1);
    }

    private static void noCell() {
        says("a CELL (or NONE), a GAIN, a FINISH (ints)");
        WishTrees x = new WishTrees();
        effective(x, 2, 0, 5, 6);
        due("no cell any more", x.effect(0, NONE, 7, 8), 1);
        x.doing(2, 0);
        int who = grow(x, beside(2, 2), act(0), act(1));
        x.ask(who);
        due("both broken off", x.give(who, 0), 2);
        x.ask(who);
        due("both done", x.ask(who), DONE);
        for (int k = 0; k < 12; k++) {
            due("nothing in " + k, x.has(k, 0), 0);
        }
        due("no finding", x.count(who, 4), 0);
    }

    /** A TEST alone, and one in a NOT, in a GUARD: each in an object of its own. */
    private static void dueTest(String name, Start start, int[] test, int answer, int finding) {
        WishTrees x = new WishTrees();
        start.on(x);
        int alone = grow(x, test);
        int turned = grow(x, not(), test);
        int guarding = grow(x, not(), n(5, test[1], test[2], test[3]), not(), n(1, 0, 11, 0));
        due(name, x.ask(alone), answer);
        due(name + " in a not", x.ask(turned), answer == DONE ? FAILED : DONE);
        due(name + ", how many findings", x.count(alone, 4), finding > 0 ? 1 : 0);
        due(name + ", finding", x.count(alone, 5), finding);
        due(name + ", its node", x.count(alone, 6), finding > 0 ? 0 : NONE);
        due(name + ", its node in a not", x.count(turned, 6), finding > 0 ? 1 : NONE);
        x.ask(guarding);
        due(name + " in a guard", x.told(guarding, 2, 1), answer == DONE ? 1 : 0);
        due(name + ", guard's finding", finding > 0 ? x.count(guarding, 5) : 0, finding);
        due(name + ", guard's node", finding > 0 ? x.count(guarding, 6) : 1, 1);
        due(name + ", guard", finding > 0 ? x.told(guarding, 1, 0) : FAILED, FAILED);
    }

    private static Start number(long v) {
        return x -> x.cell(0, 1, v);
    }

    private static void aboveAndIs() {
        says("0 its NUMBER is above n, 1 is n;");
        int[] ns = {LEAST, LEAST + 1, -1, 0, 1, MOST - 1, MOST};
        for (int n : ns) {
            for (long more = -1; more <= 1; more++) {
                dueTest((n + more) + " is above " + n, number(n + more), n(1, 0, 0, n), more > 0 ? DONE : FAILED, 0);
                dueTest((n + more) + " is " + n, number(n + more), n(1, 1, 0, n), more == 0 ? DONE : FAILED, 0);
            }
            dueTest("far is not near " + n, number(n + (1L << 32)), n(1, 1, 0, n), FAILED, 0);
            dueTest("far is above " + n, number(n + (1L << 32)), n(1, 0, 0, n), DONE, 0);
            dueTest("far below is not above " + n, number(n - (1L << 32)), n(1, 0, 0, n), FAILED, 0);
        }
        dueTest("the most", number(Long.MAX_VALUE), n(1, 0, 0, MOST), DONE, 0);
        dueTest("the least", number(Long.MIN_VALUE), n(1, 0, 0, LEAST), FAILED, 0);
        dueTest("the last cell", x -> x.cell(11, 1, 3), n(1, 1, 11, 3), DONE, 0);
    }

    private static void flagIsOn() {
        says("2 its FLAG is on (n is not looked at)");
        int[] ns = {LEAST, -1, 0, 1, 2, MOST};
        for (int n : ns) {
            dueTest("on, n " + n, x -> x.cell(0, 2, Long.MIN_VALUE), n(1, 2, 0, n), DONE, 0);
            dueTest("off, n " + n, x -> x.cell(0, 2, 0), n(1, 2, 0, n), FAILED, 0);
        }
    }

    private static void rowHasAboveZero() {
        says("3 its ROW has at n (from 0) a number above 0");
        int[] numbers = {LEAST, -1, 0, 1, 2, MOST};
        for (int place = 0; place < 6; place++) {
            int i = place;
            for (int v : numbers) {
                dueTest(v + " at " + i, x -> {
                    x.cell(11, 3, 6);
                    x.row(11, i, v);
                }, n(1, 3, 11, i), v > 0 ? DONE : FAILED, 0);
            }
            dueTest("another place than " + i, x -> {
                x.cell(11, 3, 6);
                x.row(11, (i + 1) % 6, 1);
            }, n(1, 3, 11, i), FAILED, 0);
        }
    }

    private static void factIsOne() {
        says("4 FACT n (0 to 7) is 1 (the CELL is not looked at)");
        Start[] starts = {x -> x.cell(0, 0, 0), x -> x.cell(0, 1, 5), x -> x.cell(0, 2, 1), x -> x.cell(0, 3, 0)};
        for (Start start : starts) {
            for (int f = 0; f < 8; f++) {
                int bit = 1 << f;
                dueTest("fact " + f + " is 1", x -> {
                    start.on(x);
                    x.world(bit);
                }, fact(f), DONE, 0);
                dueTest("fact " + f + " is 0", x -> {
                    start.on(x);
                    x.world(255 - bit);
                }, fact(f), FAILED, 0);
            }
        }
    }

    private static void findings() {
        says("A FINDING ends it, it does not hold then: 1 the CELL has NOTHING (0 to 3), 3 it has something else, "
            + "2 the ROW has no such place.");
        Start nothing = x -> x.cell(3, 0, 0);
        Start number = x -> x.cell(3, 1, 1);
        Start flag = x -> x.cell(3, 2, 1);
        Start row = x -> {
            x.cell(3, 3, 1);
            x.row(3, 0, 1);
        };
        Start[] starts = {nothing, number, flag, row};
        // for each sort of a test the one thing that it wants
        int[] wants = {1, 1, 2, 3};
        for (int sort = 0; sort < 4; sort++) {
            for (int has = 0; has < 4; has++) {
                int n = sort == 1 ? 1 : 0;
                boolean fits = wants[sort] == has;
                int finding = fits ? 0 : has == 0 ? 1 : 3;
                dueTest("sort " + sort + " of what is " + has, starts[has], n(1, sort, 3, n), fits ? DONE : FAILED, finding);
            }
        }
        int[] none = {LEAST, -1, 1, 2, 5, 6, 7, MOST};
        for (int i : none) {
            dueTest("no place " + i, row, n(1, 3, 3, i), FAILED, 2);
            dueTest("nothing is found before no place " + i, nothing, n(1, 3, 3, i), FAILED, 1);
            dueTest("a number is found before no place " + i, number, n(1, 3, 3, i), FAILED, 3);
        }
        dueTest("an empty row has no place", x -> x.cell(3, 3, 0), n(1, 3, 3, 0), FAILED, 2);
    }

    private static void findingsComeAndGo() {
        says("1 the CELL has NOTHING (0 to 3), 3 it has something else, 2 the ROW has no such place.");
        WishTrees x = new WishTrees();
        int who = grow(x, n(1, 3, 0, 2));
        int[][] steps = {{0, 0, 1}, {3, 3, 0}, {3, 2, 2}, {1, 9, 3}, {3, 6, 0}, {2, 1, 3}, {0, 0, 1}, {3, 0, 2}};
        int found = 0;
        for (int[] step : steps) {
            x.cell(0, step[0], step[1]);
            due("place 2 behind cell(0, " + step[0] + ", " + step[1] + ")", x.ask(who), FAILED);
            found += step[2] > 0 ? 1 : 0;
            due("how many findings", x.count(who, 4), found);
            due("the finding", step[2] > 0 ? x.count(who, 5) : 0, step[2]);
        }
    }
}
