/** The edges that the document names of PLANS, a sentence at a time. */
public final class PlanEdgeTest extends Checks {
    public static void main(String[] args) throws Exception {
        wishes();
        wishIsHad();
        oneToTwelve();
        twelveDearest();
        needsHoldInTurn();
        untilTheWish();
        leastSum();
        fewest();
        leastFirst();
        fromFactsAsTheyAre();
        allFacts();
        planIsMadeWithoutOne();
        notAsForetold();
        underWayGoesOn();
        noOtherPlan();
        nextDoing();
        nextDoingFails();
        wishComesEarly();
        planGoes();
        planStays();
        plansOfOneCreature();
        planCall();
        end("PlanEdgeTest", args);
    }

    private static void wishes() {
        says("9 PLAN with a wish: a mask (1 to 255) and bits of FACTS.");
        WishTrees x = new WishTrees();
        x.tree();
        badOutside("mask", 1, 255, m -> x.node(9, m, 0, 0));
        badOutside("bits", 0, 255, b -> x.node(9, 1, b, 0));
        due("nothing came", x.all(4), 0);
        int[] masks = {1, 2, 128, 170, 255};
        for (int mask : masks) {
            WishTrees y = new WishTrees();
            learn(y, 1, 1, 0, 0, 255, 255);
            int who = grow(y, els(2), wish(mask, mask), fact(0));
            for (int facts = 0; facts < 256; facts += facts == 0 ? 1 : facts) {
                y.world(facts);
                due("wish " + mask + " in " + facts, y.ask(who), DONE);
                due("was had", y.count(who, 1), (facts & mask) == mask ? 0 : 1);
                y.give(who, NONE);
                y.give(who, 0);
                if ((facts & mask) != mask) {
                    due("all were made", y.all(3), 255);
                    break;
                }
            }
        }
    }

    private static void wishIsHad() {
        says("PLAN: if FACTS have the wish: DONE.");
        int[][] had = {{255, 255, 255}, {255, 0, 0}, {1, 1, 255}, {1, 254, 0}, {128, 127, 127}, {6, 2, 250}, {6, 251, 2}};
        for (int[] h : had) {
            WishTrees x = new WishTrees();
            learn(x, 1, 0, 0, 0, 0, 0);
            int who = grow(x, wish(h[0], h[1]));
            x.world(h[2]);
            due("wish " + h[0] + " " + h[1] + " in " + h[2], x.ask(who), DONE);
            due("no plan is made for it", x.count(who, 7), 0);
            due("no doing is done for it", x.count(who, 1), 0);
            due("it has no plan", x.told(who, 0, 3), NONE);
            due("none at 0", x.plan(who, 0, 0), NONE);
            x.world(h[2] ^ h[0]);
            due("each bit is otherwise", x.ask(who), FAILED);
        }
    }

    /** Counts up in so many bits, from number 0 on: a doing for each carry. */
    private static void counter(WishTrees x, int bits, int cost) {
        for (int i = 0; i < bits; i++) {
            int mask = (2 << i) - 1;
            learn(x, 1, cost, mask, (1 << i) - 1, mask, 1 << i);
        }
    }

    private static void oneToTwelve() {
        says("A plan: a row of 1 to 12 DOINGS whose NEEDS hold in turn");
        for (int from = 0; from < 4; from++) {
            for (int steps = 1; steps <= 14; steps++) {
                WishTrees x = new WishTrees();
                counter(x, 5, 1);
                int who = grow(x, wish(31, from + steps));
                x.world(from);
                int answer = steps == 1 ? DONE : steps <= 12 ? UNDER_WAY : FAILED;
                due(from + " and " + steps, x.ask(who), answer);
                due("plans made", x.count(who, 7), steps <= 12 ? 1 : 0);
                due("doings done", x.count(who, 1), steps <= 12 ? 1 : 0);
                due("place", x.told(who, 0, 3), answer == UNDER_WAY ? 1 : NONE);
                for (int i = 0; i < 13; i++) {
                    boolean planned = answer == UNDER_WAY && i < steps;
                    due("at " + i + " of " + steps, x.plan(who, 0, i),
                        planned ? Integer.numberOfTrailingZeros(from + i + 1) : NONE);
                }
                for (int i = 2; i <= steps && steps <= 12; i++) {
                    due("on the way " + i, x.ask(who), i < steps ? UNDER_WAY : DONE);
                }
                due("all are done", x.count(who, 1), steps <= 12 ? steps : 0);
                due("by one plan", x.count(who, 7), steps <= 12 ? 1 : 0);
            }
        }
    }

    private static void twelveDearest() {
        says("of the least sum of COSTS, then the fewest, then the least first one, second one, and so on.");
        WishTrees x = new WishTrees();
        counter(x, 4, 100);
        int who = grow(x, wish(15, 12));
        due("twelve of cost 100", x.ask(who), UNDER_WAY);
        duePlan("twelve of cost 100", x, who, 0, 0, 1, 0, 2, 0, 1, 0, 3, 0, 1, 0, 2);
        x.ticks(10);
        due("the twelfth", x.ask(who), DONE);
        // a thirteenth that would be free is not reached; a leap of cost 100 is
        WishTrees y = new WishTrees();
        counter(y, 4, 0);
        learn(y, 1, 100, 15, 0, 15, 2);
        int other = grow(y, wish(15, 13));
        y.ask(other);
        duePlan("twelve with the leap", y, other, 0, 4, 0, 2, 0, 1, 0, 3, 0, 1, 0, 2, 0);
    }

    private static void needsHoldInTurn() {
        says("whose NEEDS hold in turn, from FACTS as they are, each followed by its MAKES,");
        WishTrees x = new WishTrees();
        // each spoils what the other needs: only one order goes
        learn(x, 2, 1, 1, 1, 5, 4);
        learn(x, 2, 1, 4, 0, 3, 3);
        learn(x, 2, 1, 4, 4, 2, 0);
        int who = grow(x, wish(7, 6));
        due("makes of the first hold for the second", x.ask(who), UNDER_WAY);
        duePlan("in turn", x, who, 0, 1, 0);
        int clears = grow(x, wish(7, 4));
        x.ask(clears);
        duePlan("in turn, three", x, clears, 0, 1, 0, 2);
        x.world(4);
        due("had from the first", x.ask(clears), DONE);
        int never = grow(x, wish(12, 12));
        due("no needs hold so", x.ask(never), FAILED);
        // needs of the very first hold in FACTS alone
        WishTrees y = new WishTrees();
        learn(y, 1, 0, 1, 1, 1, 1);
        int stuck = grow(y, wish(1, 1));
        due("needs what it makes", y.ask(stuck), FAILED);
        due("no plan", y.told(stuck, 0, 3), NONE);
        due("it did not fail as a doing", y.count(stuck, 3), 0);
    }

    private static void untilTheWish() {
        says("until FACTS have the wish:");
        WishTrees x = new WishTrees();
        learn(x, 2, 0, 0, 0, 1, 1);
        learn(x, 2, 0, 0, 0, 2, 2);
        learn(x, 2, 0, 0, 0, 255, 0);
        int who = grow(x, wish(1, 1));
        x.ask(who);
        duePlan("ends with the wish", x, who, 0, 0);
        int bits = grow(x, wish(255, 2));
        x.world(1);
        x.ask(bits);
        duePlan("through other facts", x, bits, 0, 2, 1);
    }

    private static void leastSum() {
        says("of the least sum of COSTS,");
        // a leap of 12 and a counter of 12 whose sum is 12 times its cost
        int[][] cases = {{0, 1, 1}, {0, 0, 0}, {1, 12, 0}, {1, 13, 1}, {1, 11, 0}, {8, 95, 0}, {8, 96, 0}, {8, 97, 1}};
        for (int[] c : cases) {
            WishTrees x = new WishTrees();
            counter(x, 4, c[0]);
            learn(x, 2, c[1], 15, 0, 15, 12);
            int who = grow(x, wish(15, 12));
            x.ask(who);
            due("twelve of " + c[0] + " or one of " + c[1], x.plan(who, 0, 0), c[2] == 1 ? 0 : 4);
            due("its end", x.plan(who, 0, 11), c[2] == 1 ? 2 : NONE);
        }
    }

    private static void fewest() {
        says("then the fewest,");
        // the way of two has the lower number first, the way of one the higher
        for (int cost = 0; cost <= 50; cost += 25) {
            WishTrees x = new WishTrees();
            learn(x, 2, cost, 0, 0, 1, 1);
            learn(x, 2, cost, 1, 1, 4, 4);
            learn(x, 2, 2 * cost, 0, 0, 4, 4);
            int who = grow(x, wish(4, 4));
            x.ask(who);
            duePlan("one of " + 2 * cost, x, who, 0, 2);
        }
        WishTrees x = new WishTrees();
        counter(x, 4, 0);
        learn(x, 2, 0, 15, 3, 15, 11);
        int who = grow(x, wish(15, 12));
        x.ask(who);
        duePlan("five for twelve", x, who, 0, 0, 1, 0, 4, 2);
    }

    private static void leastFirst() {
        says("then the least first one, second one, and so on.");
        for (int low = 0; low < 10; low++) {
            WishTrees x = new WishTrees();
            for (int d = 0; d < 10; d++) {
                learn(x, 2, 3, 0, 0, d < low ? 2 : 1, 255);
            }
            int who = grow(x, wish(1, 1));
            x.ask(who);
            duePlan("the least of those from " + low, x, who, 0, low);
        }
        // doings 0 and 1 lead where only 2, 3 go on; the first one decides before the second
        WishTrees x = new WishTrees();
        learn(x, 2, 1, 3, 2, 4, 4);
        learn(x, 2, 1, 3, 0, 3, 1);
        learn(x, 2, 1, 3, 0, 3, 2);
        learn(x, 2, 1, 3, 1, 4, 4);
        int who = grow(x, wish(4, 4));
        x.ask(who);
        duePlan("the first one decides", x, who, 0, 1, 3);
        // the first ones are alike, the second decides, though the third would not
        WishTrees y = new WishTrees();
        learn(y, 2, 1, 7, 3, 8, 8);
        learn(y, 2, 1, 7, 0, 7, 1);
        learn(y, 2, 1, 7, 1, 7, 2);
        learn(y, 2, 1, 7, 1, 7, 3);
        learn(y, 2, 1, 7, 2, 8, 8);
        int other = grow(y, wish(8, 8));
        y.ask(other);
        duePlan("the second one decides", y, other, 0, 1, 2, 4);
        // all orders go: the least
        WishTrees z = new WishTrees();
        for (int f = 0; f < 8; f++) {
            learn(z, 2, 1, 0, 0, 1 << 7 - f, 255);
        }
        int all = grow(z, wish(255, 255));
        z.ask(all);
        duePlan("all eight in order", z, all, 0, 0, 1, 2, 3, 4, 5, 6, 7);
    }

    private static void fromFactsAsTheyAre() {
        says("from FACTS as they are,");
        WishTrees x = new WishTrees();
        counter(x, 8, 1);
        int who = grow(x, wish(255, 200));
        x.world(195);
        x.ask(who);
        duePlan("from 195", x, who, 0, 2, 0, 1, 0, 3);
        x.give(who, 0);
        x.world(188);
        x.ask(who);
        duePlan("from 188", x, who, 0, 0, 1, 0, 6, 0, 1, 0, 2, 0, 1, 0, 3);
        x.give(who, 0);
        x.world(187);
        due("from 187 it is too far", x.ask(who), FAILED);
        x.world(199);
        due("from 199 it is one", x.ask(who), DONE);
    }

    private static void allFacts() {
        says("from FACTS as they are,");
        // from each of all facts some doing goes on to the next in a ring of 256
        WishTrees x = new WishTrees();
        counter(x, 8, 1);
        learn(x, 1, 1, 255, 255, 255, 0);
        int who = grow(x, wish(255, 5));
        x.world(250);
        due("over the top", x.ask(who), UNDER_WAY);
        duePlan("over the top", x, who, 0, 0, 2, 0, 1, 0, 8, 0, 1, 0, 2, 0);
        x.ticks(9);
        due("there", x.ask(who), DONE);
        x.world(6);
        due("all around is too far", x.ask(who), FAILED);
    }

    private static void planIsMadeWithoutOne() {
        says("Else, if it has no plan, or none of its doings is under way and FACTS are not as foretold: a plan is made; "
            + "FAILED without one.");
        WishTrees x = new WishTrees();
        int none = grow(x, wish(1, 1));
        due("no doings", x.ask(none), FAILED);
        x.doing(1, 0);
        due("one that makes nothing", x.ask(none), FAILED);
        due("none is made", x.count(none, 7), 0);
        due("no doing failed", x.count(none, 3), 0);
        due("no finding", x.count(none, 4), 0);
        due("two askings", x.told(none, 0, 1), 2);
        WishTrees y = new WishTrees();
        learn(y, 1, 0, 2, 2, 1, 1);
        learn(y, 3, 0, 1, 1, 4, 4);
        int who = grow(y, wish(4, 4));
        due("not yet", y.ask(who), FAILED);
        y.world(2);
        due("a plan is made then", y.ask(who), UNDER_WAY);
        due("one", y.count(who, 7), 1);
        duePlan("then", y, who, 0, 0, 1);
    }

    private static void notAsForetold() {
        says("Foretold: FACTS as those done so far leave them.");
        for (int f = 0; f < 8; f++) {
            WishTrees x = new WishTrees();
            learn(x, 1, 1, 0, 0, 1, 1);
            learn(x, 1, 1, 1, 1, 2, 2);
            learn(x, 1, 1, 2, 2, 4, 4);
            int who = grow(x, wish(4, 4));
            due("the first is done", x.ask(who), UNDER_WAY);
            due("facts as foretold", x.all(3), 1);
            x.world(1 ^ 1 << f);
            x.world(1);
            due("changed and changed back", x.ask(who), UNDER_WAY);
            due("it is the same plan", x.count(who, 7), 1);
            due("at the third", x.told(who, 0, 3), 2);
            x.world(3 ^ 1 << f);
            int answer = x.ask(who);
            due("bit " + f + " is otherwise", answer, f == 0 || f > 1 ? DONE : UNDER_WAY);
            due("a plan is made", x.count(who, 7), f == 2 ? 1 : 2);
        }
        // as those done leave them: what came while one was under way was not foretold
        WishTrees x = new WishTrees();
        learn(x, 2, 1, 0, 0, 1, 1);
        learn(x, 2, 1, 1, 1, 2, 2);
        int who = grow(x, wish(2, 2));
        x.ask(who);
        x.world(128);
        x.ask(who);
        due("one plan so far", x.count(who, 7), 1);
        due("facts", x.all(3), 129);
        due("not as foretold", x.ask(who), UNDER_WAY);
        due("another plan", x.count(who, 7), 2);
        duePlan("of the second alone", x, who, 0, 1);
    }

    private static void underWayGoesOn() {
        says("or none of its doings is under way and FACTS are not as foretold:");
        WishTrees x = new WishTrees();
        learn(x, 4, 1, 1, 0, 2, 2);
        int who = grow(x, wish(2, 2));
        int[] facts = {0, 128, 64, 252};
        for (int i = 0; i < 4; i++) {
            x.world(facts[i]);
            due("under way in " + facts[i], x.ask(who), i < 3 ? UNDER_WAY : DONE);
            due("left", x.told(who, 0, 2), 3 - i);
            due("one plan", x.count(who, 7), 1);
        }
        due("made in the facts of then", x.all(3), 254);
    }

    private static void noOtherPlan() {
        says("a plan is made; FAILED without one.");
        WishTrees x = new WishTrees();
        learn(x, 1, 1, 128, 0, 1, 1);
        learn(x, 1, 1, 129, 1, 2, 2);
        int who = grow(x, wish(2, 2));
        x.ask(who);
        x.world(129);
        due("no plan from there", x.ask(who), FAILED);
        due("the old one is gone", x.told(who, 0, 3), NONE);
        due("its first too", x.plan(who, 0, 0), NONE);
        due("one was made", x.count(who, 7), 1);
        due("no doing failed", x.count(who, 3), 0);
        x.world(1);
        due("a plan is made again", x.ask(who), DONE);
        due("the second", x.count(who, 7), 2);
    }

    private static void nextDoing() {
        says("Its next doing is asked as a DOING; FAILED: so, it has no plan then; DONE: behind it (if FACTS have the wish "
            + "then: DONE), UNDER WAY.");
        WishTrees x = new WishTrees();
        int[] gains = {1, 10, 100};
        for (int d = 0; d < 3; d++) {
            learn(x, d + 1, 1, (1 << d) - 1, (1 << d) - 1, 1 << d, 255);
            x.effect(d, 5, gains[d], 1000);
        }
        int who = grow(x, wish(4, 4));
        // place, ticks left, what cell 5 has, facts
        int[][] dues = {{1, 0, 1, 1}, {1, 1, 1, 1}, {2, 0, 11, 3}, {2, 2, 11, 3}, {2, 1, 11, 3}};
        for (int i = 0; i < dues.length; i++) {
            due("tick " + i, x.ask(who), UNDER_WAY);
            due("place at " + i, x.told(who, 0, 3), dues[i][0]);
            due("left at " + i, x.told(who, 0, 2), dues[i][1]);
            due("cell at " + i, x.has(5, 1), dues[i][2]);
            due("facts at " + i, x.all(3), dues[i][3]);
            duePlan("the whole at " + i, x, who, 0, 0, 1, 2);
        }
        due("done", x.ask(who), DONE);
        due("all gains", x.has(5, 1), 111);
        due("three are done", x.count(who, 1), 3);
        due("none is broken off", x.count(who, 2), 0);
        due("six askings", x.told(who, 0, 1), 6);
    }

    private static void nextDoingFails() {
        says("FAILED: so, it has no plan then;");
        for (int ticks = 1; ticks <= 3; ticks++) {
            WishTrees x = new WishTrees();
            learn(x, 3, 1, 1, 1, 2, 2);
            x.effect(0, 0, 1, 100);
            int who = grow(x, wish(2, 2));
            x.world(1);
            for (int i = 1; i < ticks; i++) {
                x.ask(who);
            }
            x.world(0);
            due("at " + ticks, x.ask(who), FAILED);
            due("a doing failed", x.count(who, 3), ticks > 1 ? 1 : 0);
            due("no plan", x.told(who, 0, 3), NONE);
            due("none at 0", x.plan(who, 0, 0), NONE);
            due("none is under way", x.told(who, 0, 2), 0);
            due("none is broken off", x.count(who, 2), 0);
            due("no finish", x.has(0, 0), 0);
            x.world(1);
            due("a plan again", x.ask(who), UNDER_WAY);
            due("from the start", x.told(who, 0, 2), 2);
        }
    }

    private static void wishComesEarly() {
        says("DONE: behind it (if FACTS have the wish then: DONE), UNDER WAY.");
        WishTrees x = new WishTrees();
        learn(x, 2, 1, 0, 0, 1, 1);
        learn(x, 2, 1, 1, 1, 2, 2);
        x.effect(0, 0, 1, 100);
        int who = grow(x, wish(3, 3));
        x.ask(who);
        duePlan("two", x, who, 0, 0, 1);
        x.world(2);
        due("the second is needed no more", x.ask(who), DONE);
        due("gain", x.has(0, 1), 1);
        due("none is broken off", x.count(who, 2), 0);
        due("no plan behind it", x.told(who, 0, 3), NONE);
        // the last is done, but the wish was spoilt meanwhile: behind it there is none
        WishTrees y = new WishTrees();
        learn(y, 2, 1, 0, 0, 1, 1);
        int spoilt = grow(y, wish(129, 1));
        y.ask(spoilt);
        y.world(128);
        due("done, but not the wish", y.ask(spoilt), UNDER_WAY);
        due("behind the last", y.told(spoilt, 0, 3), 1);
        due("a doing is done", y.count(spoilt, 1), 1);
        y.world(0);
        due("a plan is made", y.ask(spoilt), UNDER_WAY);
        due("the second", y.count(spoilt, 7), 2);
        due("at the first", y.told(spoilt, 0, 3), 0);
    }

    private static void planGoes() {
        says("a PLAN not asked in this TICK, or within such a BESIDE, or DONE has no plan.");
        // the plan's first doing is done at once, its second stays under way, or is not begun yet
        for (int asks = 1; asks <= 2; asks++) {
            int[][][] around = {{els(2), fact(4), wish(2, 2)},
                {beside(2, 1), fact(4), wish(2, 2)},
                {beside(2, 2), fact(5), wish(2, 2)},
                {row(1), wish(2, 2)}};
            int[] first = {0, 0, 32, 0};
            int[] then = {17, 17, 1, 3};
            int[] nodes = {2, 2, 2, 1};
            for (int i = 0; i < around.length; i++) {
                WishTrees x = new WishTrees();
                learn(x, 1, 1, 0, 0, 1, 1);
                learn(x, 5, 1, 1, 1, 2, 2);
                x.effect(1, 0, 1, 100);
                int who = grow(x, around[i]);
                x.world(first[i]);
                for (int ask = 0; ask < asks; ask++) {
                    x.ask(who);
                }
                due("place 1 in " + i, x.told(who, nodes[i], 3), 1);
                due("left in " + i, x.told(who, nodes[i], 2), asks == 1 ? 0 : 4);
                x.world(then[i]);
                x.ask(who);
                // within the beside the plan was asked, so its second doing had begun
                int begun = asks == 2 || i == 1 || i == 2 ? 1 : 0;
                due("no plan in " + i, x.told(who, nodes[i], 3), NONE);
                due("none of it in " + i, x.plan(who, nodes[i], 0), NONE);
                due("broken off in " + i, x.count(who, 2), begun);
                due("finish in " + i, x.has(0, 1), 100 * begun);
                due("none is under way in " + i, x.told(who, nodes[i], 2), 0);
                x.world(first[i] + 1);
                x.ask(who);
                due("another plan in " + i, x.plan(who, nodes[i], 0), 1);
            }
        }
    }

    private static void planStays() {
        says("a PLAN not asked in this TICK, or within such a BESIDE, or DONE has no plan.");
        WishTrees x = new WishTrees();
        learn(x, 1, 1, 0, 0, 1, 1);
        learn(x, 5, 1, 1, 1, 2, 2);
        int who = grow(x, beside(2, 2), not(), fact(4), wish(2, 2));
        for (int i = 0; i < 5; i++) {
            due("the beside is under way", x.ask(who), UNDER_WAY);
            due("place 1", x.told(who, 3, 3), 1);
            due("one plan", x.count(who, 7), 1);
        }
        due("nothing is broken off", x.count(who, 2), 0);
        due("the beside is done", x.ask(who), DONE);
        due("nor then", x.count(who, 2), 0);
        // a PLAN beside one that ended keeps its own
        WishTrees y = new WishTrees();
        learn(y, 1, 1, 0, 0, 1, 1);
        learn(y, 5, 1, 1, 1, 2, 2);
        int two = grow(y, beside(2, 2), beside(2, 1), fact(4), act(1), wish(2, 2));
        y.world(16);
        y.ask(two);
        due("the inner is done at once", y.told(two, 1, 0), DONE);
        due("at the second outside of it", y.told(two, 4, 3), 1);
        due("the outer is under way", y.ask(two), UNDER_WAY);
        due("the inner is done", y.told(two, 1, 0), DONE);
        due("within it is broken off", y.count(two, 2), 1);
        due("outside of it", y.told(two, 4, 3), 1);
        due("under way outside of it", y.told(two, 4, 2), 4);
    }

    private static void plansOfOneCreature() {
        says("the place in its plan of a PLAN (NONE: no plan)");
        WishTrees x = new WishTrees();
        counter(x, 4, 1);
        learn(x, 3, 1, 0, 0, 16, 16);
        int[][] nodes = new int[29][];
        nodes[0] = beside(4, 4);
        for (int i = 1; i < 29; i++) {
            nodes[i] = i % 7 == 1 ? beside(6, 6) : wish(31, i % 7 == 0 ? 28 : 12);
        }
        int who = grow(x, nodes);
        x.ask(who);
        // the facts count up within the tick: each PLAN is made from the facts that it finds
        for (int i = 2; i < 14; i++) {
            if (i % 7 > 1) {
                int from = i < 8 ? i - 2 : i - 3;
                due("place of " + i, x.told(who, i, 3), 1);
                due("first of " + i, x.plan(who, i, 0), Integer.numberOfTrailingZeros(from + 1));
                due("last of " + i, x.plan(who, i, 11 - from), 2);
                due("behind the last of " + i, x.plan(who, i, 12 - from), NONE);
            }
        }
        due("twelve is had", x.told(who, 16, 0), DONE);
        due("without a plan", x.told(who, 16, 3), NONE);
        int plans = x.count(who, 7);
        due("the last two wish for 28 from 12, of three ticks", x.told(who, 21, 2) * 10 + x.told(who, 28, 2), 22);
        due("both are broken off", x.give(who, 0), 2);
        due("plans made stay", x.count(who, 7), plans);
        due("no plan is left", x.told(who, 2, 3), NONE);
    }

    private static void planCall() {
        says("DOING i of a PLAN's plan. BAD: also no PLAN; NONE: no plan, none such.");
        WishTrees x = new WishTrees();
        counter(x, 4, 1);
        int who = grow(x, els(3), wish(31, 31), wish(15, 12), fact(0));
        x.ask(who);
        duePlan("of twelve", x, who, 2, 0, 1, 0, 2, 0, 1, 0, 3, 0, 1, 0, 2);
        int[] none = {LEAST, -13, -1, 12, 13, 24, 360, MOST};
        for (int i : none) {
            due("none such " + i, x.plan(who, 2, i), NONE);
            due("no plan " + i, x.plan(who, 1, i), NONE);
            due("no PLAN " + i, x.plan(who, 0, i), BAD);
            due("a test " + i, x.plan(who, 3, i), BAD);
        }
        badOutside("plan's node", 0, 3, n -> x.plan(who, n, 0));
        badOutside("plan's creature", 0, 0, c -> x.plan(c, 2, 0));
        x.give(who, NONE);
        due("no tree", x.plan(who, 2, 0), BAD);
        x.give(who, 0);
        due("no plan yet", x.plan(who, 2, 0), NONE);
    }
}
