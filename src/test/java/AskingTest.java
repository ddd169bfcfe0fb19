/** Promises 10, 11, 16, 17 and 19, and how NODES answer and what comes behind a TICK. */
public final class AskingTest extends Checks {
    public static void main(String[] args) throws Exception {
        tests();
        rowAndElse();
        memo();
        memoBeginsAnew();
        besideAnswers();
        besideBreaksOff();
        guard();
        again();
        opposite();
        doing();
        ask();
        ticks();
        told();
        asked();
        count();
        end("AskingTest", args);
    }

    private static void tests() {
        // sort, cell, n, answer, finding (0: none)
        int[][] rows = {
            {0, 0, 4, 1, 0}, {0, 0, 5, 2, 0}, {0, 0, 6, 2, 0}, {0, 1, Integer.MAX_VALUE, 1, 0},
            {0, 2, 0, 2, 3}, {0, 4, 0, 2, 3}, {0, 5, 0, 2, 1},
            {1, 0, 5, 1, 0}, {1, 0, 4, 2, 0}, {1, 1, Integer.MIN_VALUE, 2, 0}, {1, 2, 1, 2, 3}, {1, 5, 0, 2, 1},
            {2, 2, 9, 1, 0}, {2, 3, 1, 2, 0}, {2, 0, 5, 2, 3}, {2, 4, 0, 2, 3}, {2, 5, 0, 2, 1},
            {3, 4, 0, 2, 0}, {3, 4, 1, 1, 0}, {3, 4, 2, 2, 0}, {3, 4, 3, 2, 2}, {3, 4, -1, 2, 2},
            {3, 4, Integer.MAX_VALUE, 2, 2}, {3, 0, 9, 2, 3}, {3, 2, 0, 2, 3}, {3, 5, 9, 2, 1},
            {4, 0, 0, 1, 0}, {4, 0, 1, 2, 0}, {4, 0, 7, 1, 0}};
        for (int[] r : rows) {
            String name = "test " + r[0] + " cell " + r[1] + " n " + r[2];
            WishTrees x = furnished();
            int who = grow(x, n(8, 0, 0, 0), n(1, r[0], r[1], r[2]));
            x.ask(who);
            due(name, x.told(who, 1, 0), r[3]);
            due(name + " findings", x.count(who, 4), r[4] > 0 ? 1 : 0);
            due(name + " finding", x.count(who, 5), r[4]);
            due(name + " its node", x.count(who, 6), r[4] > 0 ? 1 : NONE);
        }
    }

    private static WishTrees furnished() {
        WishTrees x = new WishTrees();
        x.cell(0, 1, 5);
        x.cell(1, 1, Integer.MAX_VALUE + 1L);
        x.cell(2, 2, 1);
        x.cell(3, 2, 0);
        x.cell(4, 3, 3);
        x.row(4, 1, 1);
        x.row(4, 2, -1);
        x.world(129);
        return x;
    }

    private static void rowAndElse() {
        WishTrees x = new WishTrees();
        x.doing(2, 0);
        int row = grow(x, n(2, 4, 0, 0), fact(0), act(0), fact(1), fact(2));
        int els = grow(x, n(3, 4, 0, 0), fact(0), act(0), fact(1), fact(2));
        due("row fails first", x.ask(row), FAILED);
        due("row asks no more", x.all(5), 2);
        due("else under way", x.ask(els), UNDER_WAY);
        due("else asks the first two", x.all(5), 3);
        due("else done", x.ask(els), DONE);
        due("else asks not behind done", x.told(els, 3, 1), 0);
        x.world(1);
        due("else done first", x.ask(els), DONE);
        due("else only the first", x.all(5), 2);
        due("row under way", x.ask(row), UNDER_WAY);
        due("row goes on with nothing", x.told(row, 0, 3), 0);
        due("row waits", x.told(row, 3, 1), 0);
        due("row goes on to a failure", x.ask(row), FAILED);
        due("row asked the third", x.told(row, 3, 0), FAILED);
        due("row not the fourth", x.told(row, 4, 1), 0);
        x.world(3);
        x.ask(row);
        due("row's last answer fails", x.ask(row), FAILED);
        x.world(7);
        x.ask(row);
        due("row done", x.ask(row), DONE);
        int all = grow(x, n(3, 2, 0, 0), fact(6), fact(7));
        due("else fails", x.ask(all), FAILED);
        due("else asked all", x.all(5), 3);
    }

    private static void memo() {
        WishTrees x = new WishTrees();
        x.doing(2, 0);
        x.doing(2, 0);
        x.effect(0, 0, 1, 100);
        int who = grow(x, n(7, 4, 0, 0), fact(0), act(0), act(1), fact(1));
        x.world(1);
        due("memo under way", x.ask(who), UNDER_WAY);
        due("memo goes on with", x.told(who, 0, 3), 1);
        x.world(0);
        due("memo asks not those ahead", x.ask(who), UNDER_WAY);
        due("memo did not ask the test", x.told(who, 1, 1), 1);
        due("memo as before", x.told(who, 0, 1), 2);
        due("memo goes on with 2", x.told(who, 0, 3), 2);
        due("memo fails", x.ask(who), FAILED);
        due("memo asked 3", x.all(5), 3);
        due("memo begins anew behind a failure", x.told(who, 0, 3), 0);
        due("memo asks the test again", x.ask(who), FAILED);
        due("memo the test", x.told(who, 1, 1), 2);
        x.world(3);
        x.ticks(2);
        due("memo is at 2", x.told(who, 0, 3), 2);
        due("memo given again", x.give(who, 0), 1);
        due("memo begins anew with the tree", x.told(who, 0, 3), 0);
        x.ticks(2);
        due("memo done", x.ask(who), DONE);
        due("memo begins anew behind done", x.told(who, 0, 3), 0);
        due("gain each time, no finish", x.has(0, 1), 3);
    }

    private static void memoBeginsAnew() {
        WishTrees x = new WishTrees();
        x.doing(3, 0);
        int who = grow(x, n(5, 4, 0, 0), n(7, 2, 0, 0), fact(0), act(0));
        x.world(1);
        x.ask(who);
        due("memo in a guard", x.told(who, 1, 3), 1);
        x.world(0);
        x.ask(who);
        due("memo was not asked", x.told(who, 1, 3), 0);
        due("its doing was broken off", x.count(who, 2), 1);
        int beside = grow(x, n(4, 2, 1, 0), n(7, 2, 0, 0), fact(1), act(0), fact(2));
        x.world(2);
        x.ask(beside);
        due("memo in a beside under way", x.told(beside, 1, 3), 1);
        x.world(6);
        due("the beside is done", x.ask(beside), DONE);
        due("memo in a beside that is done", x.told(beside, 1, 3), 0);
        due("memo's latest answer stays", x.told(beside, 1, 0), UNDER_WAY);
        due("broken off in the memo", x.count(beside, 2), 1);
    }

    private static void besideAnswers() {
        WishTrees x = new WishTrees();
        x.doing(20, 0);
        // parts: done for fact 0, fact 1, and one under way
        int one = grow(x, n(4, 3, 1, 0), fact(0), fact(1), act(0));
        int two = grow(x, n(4, 3, 2, 0), fact(0), fact(1), act(0));
        int three = grow(x, n(4, 3, 3, 0), fact(0), fact(1), act(0));
        int[][] dues = {{3, 2, 2}, {1, 3, 2}, {1, 3, 2}, {1, 1, 3}};
        for (int bits = 0; bits < 4; bits++) {
            x.world(bits);
            due("beside 1 of 3, facts " + bits, x.ask(one), dues[bits][0]);
            due("asks all", x.all(5), 4);
            due("beside 2 of 3, facts " + bits, x.ask(two), dues[bits][1]);
            due("asks all", x.all(5), 4);
            due("beside 3 of 3, facts " + bits, x.ask(three), dues[bits][2]);
            due("asks all", x.all(5), 4);
        }
    }

    private static void besideBreaksOff() {
        WishTrees x = new WishTrees();
        x.doing(3, 0);
        x.effect(0, 0, 1000, 1);
        // a beside of a row and a test; another doing beside it that goes on
        int who = grow(x, n(4, 2, 2, 0), n(4, 2, 2, 0), n(2, 1, 0, 0), act(0), fact(0), act(0));
        x.world(1);
        due("under way", x.ask(who), UNDER_WAY);
        due("inner under way", x.told(who, 1, 0), UNDER_WAY);
        due("nothing broken off", x.count(who, 2), 0);
        x.world(0);
        due("outer fails", x.ask(who), FAILED);
        due("both broken off", x.count(who, 2), 2);
        due("both finish", x.has(0, 1), 2);
        due("not under way", x.told(who, 3, 2), 0);
        // the inner one alone fails
        int els = grow(x, n(3, 2, 0, 0), n(4, 2, 2, 0), act(0), fact(0), act(0));
        x.world(0);
        due("the second of the else", x.ask(els), UNDER_WAY);
        due("within the beside", x.count(els, 2), 1);
        due("beside it stays", x.told(els, 4, 2), 2);
        due("finish once", x.has(0, 1), 3);
        x.world(1);
        due("the first of the else", x.ask(els), UNDER_WAY);
        due("the second was not asked", x.count(els, 2), 2);
        due("it is under way", x.told(els, 2, 2), 2);
        due("the other no more", x.told(els, 4, 2), 0);
        due("finish again", x.has(0, 1), 4);
        x.ask(els);
        due("inner done", x.ask(els), DONE);
        due("a doing that is done is not broken off", x.count(els, 2), 2);
        due("gain", x.has(0, 1), 1004);
    }

    private static void guard() {
        WishTrees x = new WishTrees();
        x.doing(2, 0);
        x.effect(0, 1, 5, 7);
        int who = grow(x, n(5, 0, 0, 3), act(0));
        due("finding", x.ask(who), FAILED);
        due("a guard's finding", x.count(who, 4), 1);
        due("its sort", x.count(who, 5), 1);
        due("its node", x.count(who, 6), 0);
        due("the part is not asked", x.all(5), 1);
        x.cell(0, 1, 4);
        due("part under way", x.ask(who), UNDER_WAY);
        x.cell(0, 1, 3);
        due("does not hold", x.ask(who), FAILED);
        due("finish", x.has(1, 1), 7);
        x.cell(0, 1, 4);
        x.ask(who);
        due("part done", x.ask(who), DONE);
        due("gain", x.has(1, 1), 12);
        due("one finding", x.count(who, 4), 1);
    }

    private static void again() {
        WishTrees x = new WishTrees();
        int who = grow(x, n(6, 3, 0, 0), fact(0));
        due("again fails", x.ask(who), FAILED);
        x.world(1);
        for (int round = 0; round < 2; round++) {
            due("first", x.ask(who), UNDER_WAY);
            due("first told", x.told(who, 0, 3), 1);
            due("second", x.ask(who), UNDER_WAY);
            due("second told", x.told(who, 0, 3), 2);
            due("third", x.ask(who), DONE);
            due("begins anew", x.told(who, 0, 3), 0);
        }
        x.ask(who);
        x.world(0);
        due("part fails", x.ask(who), FAILED);
        due("begins anew behind a failure", x.told(who, 0, 3), 0);
        int once = grow(x, n(6, 1, 0, 0), n(8, 0, 0, 0), fact(0));
        due("once", x.ask(once), DONE);
        int guarded = grow(x, n(5, 4, 0, 1), n(6, 3, 0, 0), fact(1));
        x.world(2);
        x.ticks(1);
        due("counted", x.told(guarded, 1, 3), 1);
        x.world(0);
        x.ask(guarded);
        due("not asked, begins anew", x.told(guarded, 1, 3), 0);
        int beside = grow(x, n(4, 2, 1, 0), n(6, 3, 0, 0), n(8, 0, 0, 0), fact(7), fact(2));
        x.ask(beside);
        due("in a beside under way", x.told(beside, 1, 3), 1);
        x.world(4);
        due("beside done", x.ask(beside), DONE);
        due("in a beside that is done", x.told(beside, 1, 3), 0);
        int fifty = grow(x, n(6, 50, 0, 0), fact(2));
        for (int i = 1; i < 50; i++) {
            due("of fifty", x.ask(fifty), UNDER_WAY);
        }
        due("the fiftieth", x.ask(fifty), DONE);
        x.doing(2, 0);
        WishTrees y = new WishTrees();
        y.doing(2, 0);
        int slow = grow(y, n(6, 2, 0, 0), act(0));
        due("part under way", y.ask(slow), UNDER_WAY);
        due("not counted", y.told(slow, 0, 3), 0);
        due("part done", y.ask(slow), UNDER_WAY);
        due("counted", y.told(slow, 0, 3), 1);
        due("kept", y.ask(slow) * 10 + y.told(slow, 0, 3), 31);
        due("given again", y.give(slow, 0), 1);
        due("begins anew with the tree", y.told(slow, 0, 3), 0);
        due("first time", y.ask(slow) * 10 + y.ask(slow), 33);
        due("second time", y.ask(slow), UNDER_WAY);
        due("done", y.ask(slow), DONE);
    }

    private static void opposite() {
        WishTrees x = new WishTrees();
        x.doing(2, 0);
        x.facts(0, false, 1, 1);
        int who = grow(x, n(8, 0, 0, 0), act(0));
        due("not of failed", x.ask(who), DONE);
        x.world(1);
        due("not of under way", x.ask(who), UNDER_WAY);
        due("not of done", x.ask(who), FAILED);
    }

    private static void doing() {
        WishTrees x = new WishTrees();
        x.doing(3, 0);
        x.facts(0, false, 1, 1);
        x.facts(0, true, 3, 2);
        x.effect(0, 0, 10, 1);
        int who = grow(x, act(0));
        due("needs do not hold", x.ask(who), FAILED);
        due("not under way", x.told(who, 0, 2), 0);
        due("failed", x.count(who, 3), 1);
        x.world(1);
        due("begins", x.ask(who), UNDER_WAY);
        due("two left", x.told(who, 0, 2), 2);
        due("makes nothing yet", x.all(3), 1);
        x.world(0);
        due("needs fail under way", x.ask(who), FAILED);
        due("no more under way", x.told(who, 0, 2), 0);
        due("not broken off", x.count(who, 2), 0);
        due("no finish", x.has(0, 0), 0);
        x.world(1);
        due("begins anew", x.ask(who), UNDER_WAY);
        due("two left again", x.told(who, 0, 2), 2);
        x.ask(who);
        due("one left", x.told(who, 0, 2), 1);
        due("done", x.ask(who), DONE);
        due("none left", x.told(who, 0, 2), 0);
        due("makes", x.all(3), 2);
        due("gain", x.has(0, 1), 10);
        due("count done", x.count(who, 1), 1);
        due("count failed", x.count(who, 3), 2);
        due("needs again", x.ask(who), FAILED);
    }

    private static void ask() {
        WishTrees x = new WishTrees();
        due("10 no creature", x.ask(0), BAD);
        x.creature();
        due("10 no tree", x.ask(0), STATE);
        due("10 no tick", x.count(0, 0), 0);
        due("10 below", x.ask(-1), BAD);
        due("10 above", x.ask(1), BAD);
        x.tree();
        x.node(1, 4, 0, 3);
        x.give(0, 0);
        due("10 failed", x.ask(0), FAILED);
        x.world(8);
        due("10 done", x.ask(0), DONE);
        due("10 two ticks", x.count(0, 0), 2);
    }

    private static void ticks() {
        WishTrees x = new WishTrees();
        due("11 below", x.ticks(-1), BAD);
        due("11 above", x.ticks(51), BAD);
        x.doing(1, 0);
        x.facts(0, true, 1, 1);
        x.doing(1, 0);
        x.facts(1, true, 1, 0);
        x.creature();
        int makes = grow(x, n(2, 2, 0, 0), n(8, 0, 0, 0), fact(0), act(0));
        int clears = grow(x, n(2, 2, 0, 0), fact(0), act(1));
        due("11 none", x.ticks(0), 0);
        due("11 no ticks", x.count(makes, 0), 0);
        due("11 fifty, two have trees", x.ticks(50), 100);
        due("11 without a tree", x.count(0, 0), 0);
        due("11 in order, each tick", x.count(makes, 1), 50);
        due("11 in order, the second", x.count(clears, 1), 50);
        due("11 latest tick is the second's", x.asked(0, 0) * 10 + x.asked(1, 0), 12);
        x.give(makes, NONE);
        due("11 one", x.ticks(1), 1);
    }

    private static void told() {
        WishTrees x = new WishTrees();
        due("16 no creature", x.told(0, 0, 0), BAD);
        x.creature();
        due("16 no tree", x.told(0, 0, 0), BAD);
        int who = grow(x, n(2, 2, 0, 0), fact(0), fact(1));
        due("16 node above", x.told(who, 3, 0), BAD);
        due("16 node below", x.told(who, -1, 0), BAD);
        due("16 what above", x.told(who, 0, 4), BAD);
        due("16 what below", x.told(who, 0, -1), BAD);
        due("16 creature below", x.told(-1, 0, 0), BAD);
        due("16 creature above", x.told(2, 0, 0), BAD);
        for (int what = 0; what < 4; what++) {
            due("16 not asked " + what, x.told(who, 1, what), 0);
        }
        x.world(1);
        x.ticks(3);
        x.world(0);
        x.ask(who);
        due("16 latest", x.told(who, 1, 0), FAILED);
        due("16 how often", x.told(who, 1, 1), 4);
        due("16 stays when not asked", x.told(who, 2, 0), FAILED);
        due("16 not so often", x.told(who, 2, 1), 3);
        due("16 no doing", x.told(who, 2, 2), 0);
        due("16 others", x.told(who, 0, 3), 0);
        x.give(who, 0);
        due("16 since it has the tree", x.told(who, 1, 1), 0);
        due("16 no answer since", x.told(who, 1, 0), 0);
    }

    private static void asked() {
        WishTrees x = new WishTrees();
        int who = grow(x, n(4, 2, 1, 0), n(8, 0, 0, 0), fact(0), n(3, 2, 0, 0), fact(1), fact(2));
        due("17 none yet", x.asked(0, 0), BAD);
        x.world(2);
        x.ask(who);
        int[][] dues = {{2, 2}, {1, 1}, {4, 1}, {3, 1}, {0, 1}};
        due("17 how many", x.all(5), 5);
        for (int i = 0; i < 5; i++) {
            due("17 node " + i, x.asked(i, 0), dues[i][0]);
            due("17 answer " + i, x.asked(i, 1), dues[i][1]);
        }
        due("17 above", x.asked(5, 0), BAD);
        due("17 below", x.asked(-1, 0), BAD);
        due("17 what above", x.asked(0, 2), BAD);
        due("17 what below", x.asked(0, -1), BAD);
        int small = grow(x, fact(0));
        x.ask(small);
        due("17 the latest of any creature", x.all(5), 1);
        due("17 no more told", x.asked(1, 0), BAD);
        due("17 its answer", x.asked(0, 1), FAILED);
        x.ask(99);
        x.ticks(0);
        x.give(small, NONE);
        x.ask(small);
        due("17 no tick, the same", x.all(5), 1);
    }

    private static void count() {
        WishTrees x = new WishTrees();
        due("19 no creature", x.count(0, 0), BAD);
        x.creature();
        due("19 below", x.count(0, -1), BAD);
        due("19 above", x.count(0, 9), BAD);
        due("19 creature below", x.count(-1, 0), BAD);
        due("19 creature above", x.count(1, 0), BAD);
        int[] first = {0, 0, 0, 0, 0, 0, NONE, 0, NONE};
        for (int what = 0; what < 9; what++) {
            due("19 at first " + what, x.count(0, what), first[what]);
        }
        int who = grow(x, n(4, 3, 1, 0), n(1, 0, 3, 0), n(1, 3, 4, 2), n(1, 2, 3, 0));
        x.cell(4, 3, 2);
        x.cell(3, 1, 0);
        x.ask(who);
        due("19 findings", x.count(who, 4), 2);
        due("19 latest finding", x.count(who, 5), 3);
        due("19 its node", x.count(who, 6), 3);
        due("19 tree", x.count(who, 8), 0);
        x.cell(3, 2, 1);
        x.ask(who);
        due("19 findings more", x.count(who, 4), 4);
        due("19 latest finding is 2", x.count(who, 5), 2);
        due("19 its node is 2", x.count(who, 6), 2);
        x.give(who, NONE);
        due("19 kept without a tree", x.count(who, 4) * 100 + x.count(who, 5) * 10 + x.count(who, 6), 422);
        due("19 no tree", x.count(who, 8), NONE);
    }
}
