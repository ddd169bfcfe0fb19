/** PLANS: promise 18, what 2, 3, 16, 19 say of them, and which plan is made. */
public final class PlanTest extends Checks {
    public static void main(String[] args) throws Exception {
        planCall();
        leastCost();
        thenFewest();
        thenLeastFirst();
        atMostTwelve();
        costUnderTwelve();
        wishIsHad();
        followsAndReplans();
        foretoldAgainstFacts();
        onePlanFromOtherFacts();
        failsUnderWay();
        noPlan();
        losesThePlan();
        doneByTheWorld();
        besideAndNot();
        end("PlanTest", args);
    }

    private static void planCall() {
        WishTrees x = new WishTrees();
        learn(x, 2, 1, 0, 0, 1, 1);
        due("18 no creature", x.plan(0, 0, 0), BAD);
        int bare = x.creature();
        due("18 no tree", x.plan(bare, 0, 0), BAD);
        int who = grow(x, n(2, 2, 0, 0), n(9, 1, 1, 0), n(0, 0, 0, 0));
        due("18 no plan yet", x.plan(who, 1, 0), NONE);
        due("18 no plan told", x.told(who, 1, 3), NONE);
        x.ask(who);
        due("18 a plan", x.plan(who, 1, 0), 0);
        due("18 none such above", x.plan(who, 1, 1), NONE);
        due("18 none such far above", x.plan(who, 1, 12), NONE);
        due("18 none such below", x.plan(who, 1, -1), NONE);
        due("18 no PLAN, a row", x.plan(who, 0, 0), BAD);
        due("18 no PLAN, a doing", x.plan(who, 2, 0), BAD);
        due("18 node above", x.plan(who, 3, 0), BAD);
        due("18 node below", x.plan(who, -1, 0), BAD);
        due("18 creature above", x.plan(2, 1, 0), BAD);
    }

    private static void leastCost() {
        WishTrees x = new WishTrees();
        learn(x, 1, 10, 0, 0, 4, 4);
        learn(x, 20, 4, 0, 0, 1, 1);
        learn(x, 20, 4, 1, 1, 2, 2);
        learn(x, 20, 1, 3, 3, 4, 4);
        int who = grow(x, n(9, 4, 4, 0));
        x.ask(who);
        duePlan("least cost", x, who, 0, 1, 2, 3);
        due("first under way", x.told(who, 0, 2), 19);
        WishTrees y = new WishTrees();
        learn(y, 1, 8, 0, 0, 4, 4);
        learn(y, 20, 4, 0, 0, 1, 1);
        learn(y, 20, 4, 1, 1, 2, 2);
        learn(y, 20, 1, 3, 3, 4, 4);
        int other = grow(y, n(9, 4, 4, 0));
        due("done by the one", y.ask(other), DONE);
        due("a plan was made", y.count(other, 7), 1);
    }

    private static void thenFewest() {
        WishTrees x = new WishTrees();
        learn(x, 2, 3, 0, 0, 1, 1);
        learn(x, 2, 3, 1, 1, 4, 4);
        learn(x, 2, 6, 0, 0, 4, 4);
        int who = grow(x, n(9, 4, 4, 0));
        x.ask(who);
        duePlan("fewest", x, who, 0, 2);
        WishTrees y = new WishTrees();
        learn(y, 2, 0, 0, 0, 8, 8);
        learn(y, 2, 0, 0, 0, 4, 4);
        int free = grow(y, n(9, 4, 4, 0));
        y.ask(free);
        duePlan("no needless one", y, free, 0, 1);
    }

    private static void thenLeastFirst() {
        WishTrees x = new WishTrees();
        learn(x, 2, 1, 0, 0, 4, 4);
        learn(x, 2, 1, 0, 0, 2, 2);
        learn(x, 2, 1, 0, 0, 1, 1);
        learn(x, 2, 1, 0, 0, 1, 1);
        int who = grow(x, n(9, 7, 7, 0));
        x.ask(who);
        duePlan("least first", x, who, 0, 0, 1, 2);
        // the least first one can not be followed by the least second one
        WishTrees y = new WishTrees();
        learn(y, 2, 1, 2, 2, 4, 4);
        learn(y, 2, 1, 0, 0, 1, 1);
        learn(y, 2, 1, 0, 0, 2, 2);
        int other = grow(y, n(9, 7, 7, 0));
        y.ask(other);
        duePlan("least first that can be", y, other, 0, 1, 2, 0);
    }

    /** A counter of four bits: a doing for each carry. */
    private static void counter(WishTrees x) {
        learn(x, 1, 0, 1, 0, 1, 1);
        learn(x, 1, 0, 3, 1, 3, 2);
        learn(x, 1, 0, 7, 3, 7, 4);
        learn(x, 1, 0, 15, 7, 15, 8);
    }

    private static void atMostTwelve() {
        for (int end = 1; end < 16; end++) {
            WishTrees x = new WishTrees();
            counter(x);
            int who = grow(x, n(9, 15, end, 0));
            int answer = end == 1 ? DONE : end <= 12 ? UNDER_WAY : FAILED;
            due("counting to " + end, x.ask(who), answer);
            due("plans made to " + end, x.count(who, 7), end <= 12 ? 1 : 0);
            if (end > 1 && end <= 12) {
                due("last of " + end, x.plan(who, 0, end - 1) >= 0 ? 1 : 0, 1);
                due("behind the last of " + end, x.plan(who, 0, end), NONE);
            }
        }
    }

    private static void costUnderTwelve() {
        WishTrees x = new WishTrees();
        counter(x);
        // the cheap way to 13 takes thirteen; with the dear leap it is shorter
        learn(x, 1, 100, 15, 2, 15, 11);
        learn(x, 1, 99, 15, 1, 15, 12);
        int who = grow(x, n(9, 15, 13, 0));
        x.ask(who);
        duePlan("the row is kept to twelve", x, who, 0, 0, 5, 0);
    }

    private static void wishIsHad() {
        WishTrees x = new WishTrees();
        learn(x, 1, 1, 0, 0, 1, 1);
        x.world(4);
        int who = grow(x, n(9, 6, 132, 0));
        due("had: bits beside the mask are not looked at", x.ask(who), DONE);
        due("no plan made", x.count(who, 7), 0);
        due("no doing done", x.count(who, 1), 0);
        due("no plan", x.told(who, 0, 3), NONE);
        int zero = grow(x, n(9, 8, 0, 0));
        due("a wish of zeros", x.ask(zero), DONE);
        x.doing(1, 1);
        int no = grow(x, n(9, 8, 8, 0));
        due("no doing makes it", x.ask(no), FAILED);
    }

    private static void followsAndReplans() {
        WishTrees x = new WishTrees();
        learn(x, 1, 1, 0, 0, 1, 1);
        learn(x, 2, 1, 1, 1, 2, 2);
        learn(x, 1, 1, 2, 2, 4, 4);
        x.effect(0, 0, 1, 100);
        x.effect(1, 0, 10, 1000);
        int who = grow(x, n(9, 4, 4, 0));
        due("first done", x.ask(who), UNDER_WAY);
        duePlan("made", x, who, 0, 0, 1, 2);
        due("place 1", x.told(who, 0, 3), 1);
        due("none under way", x.told(who, 0, 2), 0);
        due("second begins", x.ask(who), UNDER_WAY);
        due("left", x.told(who, 0, 2), 1);
        due("place 1 still", x.told(who, 0, 3), 1);
        due("second done", x.ask(who), UNDER_WAY);
        due("place 2", x.told(who, 0, 3), 2);
        due("one plan so far", x.count(who, 7), 1);
        x.world(1);
        due("not as foretold: a new plan", x.ask(who), UNDER_WAY);
        due("two plans", x.count(who, 7), 2);
        duePlan("made anew", x, who, 0, 1, 2);
        due("place 0", x.told(who, 0, 3), 0);
        due("begun", x.told(who, 0, 2), 1);
        x.world(129);
        due("not as foretold, but one is under way", x.ask(who), UNDER_WAY);
        due("still two plans", x.count(who, 7), 2);
        due("place 1 again", x.told(who, 0, 3), 1);
        due("none is under way, not as foretold", x.ask(who), DONE);
        due("three plans", x.count(who, 7), 3);
        due("done", x.count(who, 1), 4);
        due("facts", x.all(3), 135);
        due("gains", x.has(0, 1), 21);
        due("nothing was broken off", x.count(who, 2), 0);
        due("no plan behind done", x.told(who, 0, 3), NONE);
        due("one asking a tick", x.all(5), 1);
        due("asked", x.told(who, 0, 1), 6);
    }

    /** Foretold is what the plan's doings leave of the FACTS from which it was made. */
    private static void foretoldAgainstFacts() {
        WishTrees x = new WishTrees();
        learn(x, 1, 1, 0, 0, 2, 2);
        learn(x, 1, 1, 2, 2, 1, 1);
        learn(x, 1, 0, 0, 0, 128, 128);
        int who = grow(x, n(9, 1, 1, 0));
        due("place 1", x.ask(who) * 10 + x.told(who, 0, 3), 31);
        int other = grow(x, n(0, 2, 0, 0));
        x.ask(other);
        x.world(2);
        due("facts are again as foretold", x.ask(who), DONE);
        due("no other plan", x.count(who, 7), 1);
        // a last doing under way whose wish was spoilt meanwhile
        WishTrees y = new WishTrees();
        learn(y, 2, 1, 0, 0, 1, 1);
        learn(y, 1, 5, 0, 0, 2, 2);
        int spoilt = grow(y, n(9, 3, 1, 0));
        due("begins", y.ask(spoilt), UNDER_WAY);
        y.world(2);
        due("done, but the wish is not had", y.ask(spoilt), UNDER_WAY);
        due("behind it", y.told(spoilt, 0, 3), 1);
        due("still a plan", y.plan(spoilt, 0, 0), 0);
        due("no plan from there", y.ask(spoilt), FAILED);
        due("no plan is left", y.told(spoilt, 0, 3), NONE);
        due("none", y.plan(spoilt, 0, 0), NONE);
        due("none failed of the doings", y.count(spoilt, 3), 0);
        due("one plan was made", y.count(spoilt, 7), 1);
    }

    private static void onePlanFromOtherFacts() {
        WishTrees x = new WishTrees();
        learn(x, 1, 1, 0, 0, 1, 1);
        learn(x, 1, 1, 1, 1, 2, 2);
        learn(x, 1, 1, 2, 2, 4, 4);
        x.world(64);
        int who = grow(x, n(9, 4, 4, 0));
        due("1 of 3", x.ask(who), UNDER_WAY);
        due("2 of 3", x.ask(who), UNDER_WAY);
        due("3 of 3", x.ask(who), DONE);
        due("one plan for all", x.count(who, 7), 1);
        x.world(160);
        x.ticks(3);
        due("the second plan", x.count(who, 7), 2);
        due("facts", x.all(3), 167);
        // all ten doings, the last one first
        WishTrees y = new WishTrees();
        for (int i = 0; i < 8; i++) {
            int left = 1 << i + 1 & 255;
            learn(y, 1, 10, left, left, 1 << i, 1 << i);
        }
        learn(y, 1, 0, 0, 0, 1, 0);
        learn(y, 1, 100, 0, 0, 192, 64);
        int all = grow(y, n(9, 65, 65, 0));
        y.ask(all);
        duePlan("from the top", y, all, 0, 7, 6, 5, 4, 3, 2, 1, 0);
        y.ticks(6);
        due("the eighth", y.ask(all), DONE);
        due("eight done", y.count(all, 1), 8);
        due("one plan", y.count(all, 7), 1);
    }

    private static void failsUnderWay() {
        WishTrees x = new WishTrees();
        learn(x, 3, 1, 1, 1, 2, 2);
        x.effect(0, 0, 1, 7);
        x.world(1);
        int who = grow(x, n(9, 2, 2, 0));
        x.ask(who);
        x.world(0);
        due("needs fail", x.ask(who), FAILED);
        due("no plan", x.told(who, 0, 3), NONE);
        due("none under way", x.told(who, 0, 2), 0);
        due("failed one", x.count(who, 3), 1);
        due("not broken off", x.count(who, 2), 0);
        due("no finish", x.has(0, 0), 0);
        due("no plan can be made", x.ask(who), FAILED);
        due("that is no doing that failed", x.count(who, 3), 1);
        x.world(1);
        due("a plan again", x.ask(who), UNDER_WAY);
        due("begins anew", x.told(who, 0, 2), 2);
        due("two plans", x.count(who, 7), 2);
    }

    private static void noPlan() {
        WishTrees x = new WishTrees();
        int who = grow(x, n(9, 1, 1, 0));
        due("no doings", x.ask(who), FAILED);
        due("none made", x.count(who, 7), 0);
        due("no plan", x.told(who, 0, 3), NONE);
        due("no finding", x.count(who, 4), 0);
        due("it was asked", x.told(who, 0, 1), 1);
    }

    private static void losesThePlan() {
        WishTrees x = new WishTrees();
        learn(x, 1, 1, 0, 0, 1, 1);
        learn(x, 3, 1, 1, 1, 2, 2);
        x.effect(1, 0, 1, 5);
        // not asked: with a doing under way, and without one
        int who = grow(x, n(5, 4, 0, 7), n(9, 2, 2, 0));
        x.world(128);
        x.ask(who);
        due("place", x.told(who, 1, 3), 1);
        x.world(1);
        x.ask(who);
        due("not asked: no plan", x.told(who, 1, 3), NONE);
        due("nothing to break off", x.count(who, 2), 0);
        x.world(129);
        x.ask(who);
        due("under way", x.told(who, 1, 2), 2);
        x.world(1);
        x.ask(who);
        due("broken off", x.count(who, 2), 1);
        due("finish", x.has(0, 1), 5);
        due("no plan then", x.plan(who, 1, 0), NONE);
        due("none under way", x.told(who, 1, 2), 0);
        x.world(129);
        x.ask(who);
        due("given another: broken off", x.give(who, 0), 1);
        due("finish again", x.has(0, 1), 10);
        due("no plan", x.told(who, 1, 3), NONE);
        due("plans made", x.count(who, 7), 3);
    }

    private static void doneByTheWorld() {
        WishTrees x = new WishTrees();
        learn(x, 5, 1, 0, 0, 2, 2);
        x.effect(0, 3, 1, -1);
        int who = grow(x, n(9, 2, 2, 0));
        x.ask(who);
        x.world(2);
        due("the wish is had", x.ask(who), DONE);
        due("its doing is broken off", x.count(who, 2), 1);
        due("finish", x.has(3, 1), -1);
        due("none done", x.count(who, 1), 0);
        due("no plan", x.told(who, 0, 3), NONE);
        due("none under way", x.told(who, 0, 2), 0);
    }

    private static void besideAndNot() {
        WishTrees x = new WishTrees();
        learn(x, 5, 1, 0, 0, 2, 2);
        x.effect(0, 3, 1, -1);
        int who = grow(x, n(4, 2, 1, 0), n(8, 0, 0, 0), n(9, 2, 2, 0), n(1, 4, 0, 0));
        due("under way", x.ask(who), UNDER_WAY);
        due("a plan in a beside", x.plan(who, 2, 0), 0);
        x.world(1);
        due("the beside is done", x.ask(who), DONE);
        due("the plan's doing is broken off", x.count(who, 2), 1);
        due("no plan", x.plan(who, 2, 0), NONE);
        due("the plan's answer", x.told(who, 2, 0), UNDER_WAY);
        due("finish", x.has(3, 1), -1);
        // without a doing under way: the first is done, the second not begun
        WishTrees y = new WishTrees();
        learn(y, 1, 1, 0, 0, 1, 1);
        learn(y, 2, 1, 1, 1, 2, 2);
        int other = grow(y, n(4, 2, 1, 0), n(9, 2, 2, 0), n(1, 4, 0, 0));
        due("done in the same tick", y.ask(other), DONE);
        due("the plan had no doing under way", y.count(other, 2), 0);
        due("and has no plan", y.told(other, 1, 3), NONE);
    }
}
