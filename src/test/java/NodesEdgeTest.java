/** The edges that "Terms" names of TREES, of what each kind of NODE answers, and of a TICK, a sentence at a time. */
public final class NodesEdgeTest extends Checks {
    public static void main(String[] args) throws Exception {
        eightTrees();
        oneNode();
        thirtyNodes();
        breakOffAtTheThirtieth();
        sixCreatures();
        rows();
        elses();
        memos();
        besides();
        notsAndGuards();
        agains();
        againBegins();
        doings();
        notAskedIsBrokenOff();
        endedBesideBreaksOff();
        nestedBesides();
        brokenOffAtEachTick();
        whatIsNotBrokenOff();
        memoBeginsAnew();
        againBeginsAnew();
        givenAnew();
        anothersTick();
        end("NodesEdgeTest", args);
    }

    private static void eightTrees() {
        says("TREES (8), each of 1 to 30 NODES, in the order in which they are told: a NODE, then its PARTS one after "
            + "the other, each with all of its own.");
        WishTrees x = new WishTrees();
        for (int t = 0; t < 8; t++) {
            due("tree " + t, plant(x, under(t, fact(t))), t);
        }
        due("a ninth", x.tree(), FULL);
        int who = x.creature();
        for (int t = 0; t < 8; t++) {
            due("size of " + t, x.part(t, 0, 5), t + 1);
            due("its last fact", x.part(t, t, 3), t);
            x.give(who, t);
            x.world(1 << t);
            due("tree " + t + " is asked", x.ask(who), t % 2 == 0 ? DONE : FAILED);
            x.world(255 - (1 << t));
            due("tree " + t + " is asked again", x.ask(who), t % 2 == 0 ? FAILED : DONE);
        }
    }

    private static void oneNode() {
        says("each of 1 to 30 NODES");
        WishTrees x = new WishTrees();
        x.doing(2, 0);
        int[][] single = {act(0), fact(0), n(1, 0, 11, 5), wish(255, 0)};
        int[] answers = {UNDER_WAY, FAILED, FAILED, DONE};
        for (int i = 0; i < single.length; i++) {
            int who = grow(x, single[i]);
            due("alone, kind " + single[i][0], x.ask(who), answers[i]);
            due("one asking", x.all(5), 1);
            due("one node", x.part(i, 0, 5), 1);
            due("no second", x.part(i, 1, 0), BAD);
            due("no second told", x.told(who, 1, 0), BAD);
        }
    }

    private static void thirtyNodes() {
        says("each of 1 to 30 NODES");
        WishTrees x = new WishTrees();
        learn(x, 2, 0, 0, 0, 1, 1);
        int acts = grow(x, under(29, act(0)));
        due("the thirtieth is under way", x.ask(acts), UNDER_WAY);
        due("thirty are asked", x.all(5), 30);
        due("it has a tick left", x.told(acts, 29, 2), 1);
        due("turned 29 times", x.ask(acts), FAILED);
        due("it is done", x.told(acts, 29, 0), DONE);
        due("asked twice", x.told(acts, 29, 1), 2);
        int wishes = grow(x, under(29, wish(3, 1)));
        due("the thirtieth has its wish", x.ask(wishes), FAILED);
        x.world(0);
        due("the thirtieth makes a plan", x.ask(wishes), UNDER_WAY);
        duePlan("the thirtieth", x, wishes, 29, 0);
        int tests = grow(x, under(29, n(1, 0, 11, 0)));
        due("the thirtieth finds", x.ask(tests), DONE);
        due("its finding's node", x.count(tests, 6), 29);
        int memos = grow(x, under(27, memo(2), n(1, 4, 0, 0), act(0)));
        x.world(1);
        due("a memo of the last", x.ask(memos), UNDER_WAY);
        due("goes on with 1", x.told(memos, 27, 3), 1);
        due("the thirtieth is left", x.told(memos, 29, 2), 1);
        int agains = grow(x, under(28, again(2), act(0)));
        x.ticks(1);
        due("an again of the last", x.ask(agains), UNDER_WAY);
        due("the thirtieth was done once", x.told(agains, 28, 3), 1);
        int wide = grow(x, beside(5, 1), beside(5, 1), act(0), act(0), act(0), act(0), act(0),
            beside(5, 1), act(0), act(0), act(0), act(0), act(0), beside(5, 1), act(0), act(0), act(0), act(0), act(0),
            beside(5, 1), act(0), act(0), act(0), act(0), act(0), beside(4, 4), act(0), act(0), act(0), act(0));
        due("a wide one of thirty", x.ask(wide), UNDER_WAY);
        due("thirty are asked of it", x.all(5), 30);
        due("the first that answered", x.asked(0, 0), 2);
        due("the last but one", x.asked(28, 0), 25);
        due("the last", x.asked(29, 0), 0);
        due("its last answer", x.asked(29, 1), UNDER_WAY);
        due("none behind", x.asked(30, 0), BAD);
        due("all are broken off", x.give(wide, NONE), 24);
        due("no thirty-first", x.part(0, 30, 0), BAD);
        due("the thirtieth", x.part(0, 29, 0), 0);
        due("whose part it is", x.part(0, 29, 4), 28);
        due("of thirty", x.part(0, 0, 5), 30);
    }

    private static void breakOffAtTheThirtieth() {
        says("each of 1 to 30 NODES");
        WishTrees x = new WishTrees();
        int d = effective(x, 3, 0, 1, 10);
        x.facts(d, true, 1, 1);
        int[][] guarded = under(29, act(d));
        guarded[0] = guard(7);
        int who = grow(x, guarded);
        int[][] planned = under(29, wish(1, 1));
        planned[0] = guard(6);
        int other = grow(x, planned);
        x.world(192);
        x.ticks(1);
        due("both are under way", x.told(who, 29, 2) * 10 + x.told(other, 29, 2), 22);
        x.world(0);
        x.ask(who);
        due("the thirtieth is broken off", x.told(who, 29, 2), 0);
        due("its finish", x.has(0, 1), 10);
        x.ask(other);
        due("the thirtieth's plan is broken off", x.told(other, 29, 2), 0);
        due("its plan", x.told(other, 29, 3), NONE);
        due("its finish too", x.has(0, 1), 20);
        x.world(128);
        x.ticks(1);
        due("given anew", x.give(who, 0), 1);
        for (int n = 0; n < 30; n++) {
            due("nothing is left of node " + n, x.told(who, n, 0) + x.told(who, n, 1) + x.told(who, n, 2), 0);
        }
    }

    private static void sixCreatures() {
        says("CREATURES (6) have a TREE.");
        WishTrees x = new WishTrees();
        x.doing(9, 0);
        plant(x, row(2), fact(0), act(0));
        for (int c = 0; c < 6; c++) {
            due("creature " + c, x.creature(), c);
            due("it has a tree", x.give(c, 0), 0);
        }
        due("a seventh", x.creature(), FULL);
        x.world(1);
        for (int c = 0; c < 6; c++) {
            for (int i = 0; i <= c; i++) {
                due("each its own", x.ask(c), UNDER_WAY);
            }
        }
        for (int c = 0; c < 6; c++) {
            due("left of " + c, x.told(c, 2, 2), 8 - c);
            due("ticks of " + c, x.count(c, 0), c + 1);
        }
    }

    /** Nodes that are asked with fact 0 on and answer so; a doing of 20 ticks is number 0. */
    private static int[] answering(int answer) {
        return answer == DONE ? fact(0) : answer == FAILED ? fact(1) : act(0);
    }

    private static void rows() {
        says("ROW: its PARTS are asked in order, as long as each is DONE: the last answer.");
        untilOther("row", 2, DONE);
    }

    private static void elses() {
        says("ELSE: as long as each has FAILED.");
        untilOther("else", 3, FAILED);
    }

    /** Of 1 to 6 parts the one at stop answers otherwise; at stop = parts none does. */
    private static void untilOther(String name, int kind, int goesOn) {
        int[] others = goesOn == DONE ? new int[] {FAILED, UNDER_WAY} : new int[] {DONE, UNDER_WAY};
        for (int parts = 1; parts <= 6; parts++) {
            for (int stop = 0; stop <= parts; stop++) {
                for (int other : others) {
                    WishTrees x = new WishTrees();
                    x.doing(20, 0);
                    x.world(1);
                    int[][] nodes = new int[parts + 1][];
                    nodes[0] = n(kind, parts, 0, 0);
                    for (int i = 0; i < parts; i++) {
                        nodes[i + 1] = answering(i == stop ? other : goesOn);
                    }
                    int who = grow(x, nodes);
                    String what = name + " of " + parts + " stopped at " + stop + " by " + other;
                    due(what, x.ask(who), stop < parts ? other : goesOn);
                    due(what + ", askings", x.all(5), Math.min(stop + 1, parts) + 1);
                    for (int i = 0; i < parts; i++) {
                        due(what + ", part " + i, x.told(who, i + 1, 1), i <= stop ? 1 : 0);
                        due(what + ", order " + i, i <= stop ? x.asked(i, 0) : i + 1, i + 1);
                    }
                    due(what + ", begins with the first again", x.ask(who), stop < parts ? other : goesOn);
                    due(what + ", the first is asked again", x.told(who, 1, 1), 2);
                }
            }
        }
    }

    private static void memos() {
        says("MEMO: as ROW, but not those ahead of the one that was UNDER WAY when it was asked last.");
        untilOtherOnce();
        for (int parts = 1; parts <= 6; parts++) {
            for (int at = 0; at < parts; at++) {
                WishTrees x = new WishTrees();
                x.doing(3, 0);
                int[][] nodes = new int[parts + 1][];
                nodes[0] = memo(parts);
                for (int i = 0; i < parts; i++) {
                    nodes[i + 1] = i == at ? act(0) : fact(i < at ? 0 : 1);
                }
                int who = grow(x, nodes);
                String what = "memo of " + parts + " at " + at;
                x.world(1);
                due(what, x.ask(who), UNDER_WAY);
                due(what + " goes on with", x.told(who, 0, 3), at);
                x.world(2);
                due(what + " goes on", x.ask(who), UNDER_WAY);
                due(what + " asks it alone", x.all(5), 2);
                due(what + " goes on with it", x.told(who, 0, 3), at);
                due(what + " is done with what is behind", x.ask(who), DONE);
                for (int i = 0; i < parts; i++) {
                    due(what + " asked " + i, x.told(who, i + 1, 1), i == at ? 3 : 1);
                }
                due(what + " begins anew", x.told(who, 0, 3), 0);
                due(what + " asks the first", x.ask(who), at == 0 ? UNDER_WAY : FAILED);
            }
        }
        says("the PART that a MEMO goes on with (from 0)");
        WishTrees x = new WishTrees();
        x.doing(2, 0);
        int two = grow(x, memo(3), act(0), act(0), act(0));
        int[] goes = {0, 1, 2, 0};
        for (int i = 0; i < 4; i++) {
            due("from one to the next", x.ask(two), i < 3 ? UNDER_WAY : DONE);
            due("goes on with", x.told(two, 0, 3), goes[i]);
        }
    }

    /** A MEMO's first asking is a ROW's. */
    private static void untilOtherOnce() {
        for (int parts = 1; parts <= 6; parts++) {
            for (int stop = 0; stop <= parts; stop++) {
                WishTrees x = new WishTrees();
                x.world(1);
                int[][] nodes = new int[parts + 1][];
                nodes[0] = memo(parts);
                for (int i = 0; i < parts; i++) {
                    nodes[i + 1] = fact(i == stop ? 1 : 0);
                }
                int who = grow(x, nodes);
                for (int round = 1; round <= 2; round++) {
                    due("memo of " + parts + " failed at " + stop, x.ask(who), stop < parts ? FAILED : DONE);
                    due("begins anew", x.told(who, 0, 3), 0);
                    due("askings", x.all(5), Math.min(stop + 1, parts) + 1);
                    due("the first each time", x.told(who, 1, 1), round);
                }
            }
        }
    }

    private static void besides() {
        says("BESIDE m: all are asked in order; DONE when m at least are DONE, else FAILED when so many can not be any "
            + "more (DONE and UNDER WAY are fewer), else UNDER WAY.");
        for (int parts = 1; parts <= 6; parts++) {
            for (int m = 1; m <= parts; m++) {
                for (int done = 0; done <= parts; done++) {
                    for (int failed = 0; failed <= parts - done; failed++) {
                        besideOf(parts, m, done, failed, true);
                        besideOf(parts, m, done, failed, false);
                    }
                }
            }
        }
    }

    private static void besideOf(int parts, int m, int done, int failed, boolean doneFirst) {
        WishTrees x = new WishTrees();
        effective(x, 20, 3, 0, 1);
        x.world(1);
        int[][] nodes = new int[parts + 1][];
        nodes[0] = beside(parts, m);
        for (int i = 0; i < parts; i++) {
            int answer = i < done ? DONE : i < done + failed ? FAILED : UNDER_WAY;
            nodes[doneFirst ? i + 1 : parts - i] = answering(answer);
        }
        int who = grow(x, nodes);
        int underWay = parts - done - failed;
        int want = done >= m ? DONE : failed > parts - m ? FAILED : UNDER_WAY;
        String what = "beside " + m + " of " + parts + ", done " + done + ", failed " + failed;
        due(what, x.ask(who), want);
        due(what + " asks all", x.all(5), parts + 1);
        for (int i = 0; i < parts; i++) {
            due(what + " in order", x.asked(i, 0), i + 1);
        }
        due(what + " breaks off", x.count(who, 2), want == UNDER_WAY ? 0 : underWay);
        due(what + " finish", x.has(3, 1), want == UNDER_WAY ? 0 : underWay);
    }

    private static void notsAndGuards() {
        says("NOT: DONE for FAILED, FAILED for DONE.");
        int[] turned = {0, FAILED, DONE, UNDER_WAY};
        for (int answer = DONE; answer <= UNDER_WAY; answer++) {
            WishTrees x = new WishTrees();
            x.doing(20, 0);
            x.world(1);
            int who = grow(x, not(), answering(answer));
            due("not of " + answer, x.ask(who), turned[answer]);
            int twice = grow(x, not(), not(), answering(answer));
            due("not of not of " + answer, x.ask(twice), answer);
        }
        says("GUARD: its TEST; if it does not hold FAILED, else what its PART answers.");
        for (int answer = DONE; answer <= UNDER_WAY; answer++) {
            WishTrees x = new WishTrees();
            x.doing(20, 0);
            x.world(1);
            int open = grow(x, guard(0), answering(answer));
            int shut = grow(x, guard(2), answering(answer));
            due("guard before " + answer, x.ask(open), answer);
            due("asks its part", x.all(5), 2);
            due("guard that does not hold", x.ask(shut), FAILED);
            due("asks not its part", x.all(5), 1);
            due("its part has no answer", x.told(shut, 1, 0), 0);
        }
    }

    private static void agains() {
        says("AGAIN m: its PART is asked; FAILED: so; DONE the m-th time (since it began): DONE; else UNDER WAY.");
        int[] ms = {1, 2, 3, 49, 50};
        for (int m : ms) {
            WishTrees x = new WishTrees();
            int who = grow(x, again(m), fact(0));
            x.world(1);
            for (int round = 0; round < 2; round++) {
                for (int i = 1; i < m; i++) {
                    due("again " + m + " at " + i, x.ask(who), UNDER_WAY);
                    due("done so often", x.told(who, 0, 3), i);
                }
                due("again " + m + " at last", x.ask(who), DONE);
                due("begins anew", x.told(who, 0, 3), 0);
            }
            due("the part's asked each time", x.told(who, 1, 1), 2 * m);
        }
    }

    private static void againBegins() {
        says("FAILED: so; DONE the m-th time (since it began): DONE; else UNDER WAY.");
        WishTrees x = new WishTrees();
        learn(x, 2, 0, 2, 0, 0, 0);
        int who = grow(x, again(2), act(0));
        int[] counts = {0, 1, 1};
        for (int i = 0; i < 3; i++) {
            due("under way is not counted", x.ask(who), UNDER_WAY);
            due("done so often", x.told(who, 0, 3), counts[i]);
        }
        x.world(2);
        due("the part fails", x.ask(who), FAILED);
        due("begins anew", x.told(who, 0, 3), 0);
        x.world(0);
        for (int i = 0; i < 3; i++) {
            due("the once before is not counted", x.ask(who), UNDER_WAY);
        }
        due("the second since", x.ask(who), DONE);
    }

    private static void doings() {
        says("DOING: if it is not under way it begins: its TICKS are left. If its NEEDS do not hold: FAILED, it is no more "
            + "under way. Else one TICK less is left; with none: MAKES, then GAIN, DONE; else UNDER WAY.");
        for (int ticks = 1; ticks <= 4; ticks++) {
            for (int fails = 1; fails <= ticks; fails++) {
                WishTrees x = new WishTrees();
                int d = effective(x, ticks, 0, 1, 100);
                x.facts(d, false, 1, 1);
                x.facts(d, true, 1, 0);
                int who = grow(x, act(d));
                String what = "of " + ticks + " ticks, needs fail at " + fails;
                x.world(1);
                for (int i = 1; i < fails; i++) {
                    due(what + ", under way", x.ask(who), UNDER_WAY);
                }
                x.world(0);
                due(what, x.ask(who), FAILED);
                due(what + ", no more under way", x.told(who, 0, 2), 0);
                due(what + ", no finish", x.has(0, 0), 0);
                due(what + ", not broken off", x.count(who, 2), 0);
                due(what + ", failed", x.count(who, 3), 1);
                x.world(1);
                for (int i = 1; i < ticks; i++) {
                    due(what + ", begins with all", x.ask(who), UNDER_WAY);
                    due(what + ", left", x.told(who, 0, 2), ticks - i);
                    due(what + ", makes nothing yet", x.all(3), 1);
                    due(what + ", gains nothing yet", x.has(0, 0), 0);
                }
                due(what + ", done", x.ask(who), DONE);
                due(what + ", makes", x.all(3), 0);
                due(what + ", gains", x.has(0, 1), 1);
                due(what + ", done ones", x.count(who, 1), 1);
            }
        }
    }

    private static void notAskedIsBrokenOff() {
        says("each DOING (of a PLAN, too) that is under way, and was not asked in this TICK,");
        for (int planned = 0; planned < 2; planned++) {
            WishTrees x = new WishTrees();
            int d = effective(x, 4, 0, 0, 1);
            x.facts(d, true, 8, 8);
            int who = grow(x, els(2), fact(0), planned == 0 ? act(d) : wish(8, 8));
            x.ask(who);
            x.ask(who);
            due("two left", x.told(who, 2, 2), 2);
            x.world(1);
            due("the other is done", x.ask(who), DONE);
            due("broken off", x.count(who, 2), 1);
            due("finish", x.has(0, 1), 1);
            due("under way no more", x.told(who, 2, 2), 0);
            due("no plan then", x.told(who, 2, 3), planned == 0 ? 0 : NONE);
            x.ask(who);
            due("not again", x.count(who, 2) * 10 + x.has(0, 1), 11);
            x.world(0);
            x.ask(who);
            due("begins anew", x.told(who, 2, 2), 3);
            due("its latest answer", x.told(who, 2, 0), UNDER_WAY);
        }
    }

    private static void endedBesideBreaksOff() {
        says("or is within a BESIDE that answered DONE, FAILED in it,");
        for (int planned = 0; planned < 2; planned++) {
            for (int m = 1; m <= 2; m++) {
                WishTrees x = new WishTrees();
                int d = effective(x, 4, 0, 0, 1);
                x.facts(d, true, 8, 8);
                int who = grow(x, beside(2, m), not(), planned == 0 ? act(d) : wish(8, 8), fact(0));
                int ends = m == 1 ? 1 : 0;
                x.world(1 - ends);
                due("under way", x.ask(who), UNDER_WAY);
                due("nothing is broken off", x.count(who, 2), 0);
                due("a tick is gone", x.told(who, 2, 2), 3);
                x.world(ends);
                due("the beside ends", x.ask(who), m == 1 ? DONE : FAILED);
                due("broken off", x.count(who, 2), 1);
                due("finish", x.has(0, 1), 1);
                due("under way no more", x.told(who, 2, 2), 0);
                due("no plan then", x.told(who, 2, 3), planned == 0 ? 0 : NONE);
                due("it was asked, and answered", x.told(who, 2, 0) * 10 + x.told(who, 2, 1), 32);
                x.ask(who);
                due("begun and broken off in one tick", x.count(who, 2), 2);
                due("finish of that", x.has(0, 1), 2);
            }
        }
    }

    private static void nestedBesides() {
        says("or is within a BESIDE that answered DONE, FAILED in it,");
        WishTrees x = new WishTrees();
        effective(x, 9, 0, 0, 1);
        effective(x, 9, 1, 0, 1);
        effective(x, 9, 2, 0, 1);
        // 0 beside 2 of 3 with 1 beside 1 of 2 (2 doing 0, 3 fact 0), 4 doing 1, 5 else (6 fact 1, 7 doing 2)
        int who = grow(x, beside(3, 3), beside(2, 1), act(0), fact(0), act(1), els(2), fact(1), act(2));
        due("all under way", x.ask(who), UNDER_WAY);
        due("none is broken off", x.count(who, 2), 0);
        x.world(1);
        due("the inner is done", x.ask(who), UNDER_WAY);
        due("within the inner", x.has(0, 1), 1);
        due("not beside it", x.has(1, 0) + x.has(2, 0), 0);
        x.world(0);
        x.ask(who);
        due("within the inner it is under way again", x.told(who, 2, 2), 8);
        due("the others went on", x.told(who, 4, 2) * 10 + x.told(who, 7, 2), 66);
        int outer = grow(x, beside(2, 2), beside(2, 2), row(1), act(0), memo(1), act(1), fact(2));
        x.world(4);
        x.ask(outer);
        due("all of the second under way", x.told(outer, 3, 2) * 10 + x.told(outer, 5, 2), 88);
        x.world(0);
        due("the outer fails", x.ask(outer), FAILED);
        due("the inner is under way", x.told(outer, 1, 0), UNDER_WAY);
        due("all within are broken off", x.count(outer, 2), 2);
        due("in the inner row", x.told(outer, 3, 2), 0);
        due("in the inner memo", x.told(outer, 5, 2), 0);
    }

    private static void brokenOffAtEachTick() {
        says("each DOING (of a PLAN, too) that is under way, and was not asked in this TICK, or is within a BESIDE that answered "
            + "DONE, FAILED in it, or whose PLAN is DONE, is BROKEN OFF");
        // from the first of its ticks to the last but one, with one tick left
        for (int ticks = 1; ticks <= 19; ticks += ticks == 1 ? 8 : 5) {
            for (int planned = 0; planned < 2; planned++) {
                int[] acts = planned == 0 ? act(0) : wish(2, 2);
                int[][][] around = {{els(2), fact(0), acts}, {beside(2, 1), fact(0), acts}, {beside(2, 1), acts, fact(0)}};
                for (int[][] nodes : around) {
                    WishTrees x = begunFor(ticks, nodes);
                    x.world(1);
                    // within a BESIDE it is asked once more: what is done then is not broken off
                    boolean isDone = nodes[0][0] == 4 && ticks == 19;
                    x.ask(0);
                    due(ticks + " of twenty, broken off", x.count(0, 2), isDone ? 0 : 1);
                    due(ticks + " of twenty, finish or gain", x.has(0, 1), isDone ? 1 : 7);
                    due(ticks + " of twenty, left", x.told(0, 1, 2) + x.told(0, 2, 2), 0);
                }
                WishTrees x = begunFor(ticks, acts);
                due(ticks + " of twenty, given another", x.give(0, NONE), 1);
                due(ticks + " of twenty, finish", x.has(0, 1), 7);
            }
            WishTrees x = begunFor(ticks, wish(2, 2));
            x.world(2);
            due(ticks + " of twenty, whose plan is done", x.ask(0), DONE);
            due(ticks + " of twenty, broken off", x.count(0, 2), 1);
            due(ticks + " of twenty, finish", x.has(0, 1), 7);
        }
    }

    /** A creature 0 whose doing of twenty ticks, of gain 1 and finish 7 in cell 0, has had so many of them. */
    private static WishTrees begunFor(int ticks, int[]... nodes) {
        WishTrees x = new WishTrees();
        effective(x, 20, 0, 1, 7);
        x.facts(0, true, 2, 2);
        grow(x, nodes);
        for (int i = 0; i < ticks; i++) {
            due("under way", x.ask(0), UNDER_WAY);
        }
        return x;
    }

    private static void whatIsNotBrokenOff() {
        says("is BROKEN OFF: its FINISH comes, it is under way no more (a PLAN has no plan then).");
        WishTrees x = new WishTrees();
        effective(x, 2, 0, 1, 100);
        int d = effective(x, 2, 1, 1, 100);
        x.facts(d, false, 2, 0);
        effective(x, 9, 2, 1, 100);
        int who = grow(x, beside(3, 3), act(0), act(1), act(2));
        x.ask(who);
        x.world(2);
        due("one is done, one fails, one is under way", x.ask(who), FAILED);
        due("one is broken off", x.count(who, 2), 1);
        due("the one that is done has its gain alone", x.has(0, 1), 1);
        due("the one that failed has nothing", x.has(1, 0), 0);
        due("the one under way has its finish", x.has(2, 1), 100);
        x.world(0);
        x.ask(who);
        due("a latest answer of old ends no beside", x.told(who, 3, 2), 8);
        // a BESIDE that is not asked ends nothing, but what is within it is not asked either
        WishTrees y = new WishTrees();
        effective(y, 9, 0, 0, 1);
        int other = grow(y, els(2), fact(0), beside(1, 1), act(0));
        y.ask(other);
        y.world(1);
        y.ask(other);
        due("once", y.has(0, 1), 1);
        due("one", y.count(other, 2), 1);
    }

    private static void memoBeginsAnew() {
        says("A MEMO, AGAIN begins anew when it was not asked in this TICK, or is within such a BESIDE, or answered DONE, "
            + "FAILED;");
        // the memo is at its second part; then what ends it, told by facts, or what does not
        int[][][] around = {{els(2), fact(4), memo(2), fact(0), act(0)},
            {beside(2, 1), fact(4), memo(2), fact(0), act(0)},
            {beside(2, 2), fact(5), memo(2), fact(0), act(0)},
            {row(2), not(), fact(4), memo(2), fact(0), act(0)}};
        int[] first = {1, 1, 33, 1};
        int[] then = {17, 17, 1, 17};
        int[] nodes = {2, 2, 2, 3};
        for (int i = 0; i < around.length; i++) {
            for (int ends = 0; ends < 2; ends++) {
                WishTrees x = new WishTrees();
                x.doing(9, 0);
                int who = grow(x, around[i]);
                x.world(first[i]);
                due("the memo is under way", x.ask(who), UNDER_WAY);
                due("the memo is at 1", x.told(who, nodes[i], 3), 1);
                x.world(ends == 1 ? then[i] : first[i]);
                x.ask(who);
                due("around " + i + " ends " + ends, x.told(who, nodes[i], 3), 1 - ends);
                x.world(first[i]);
                x.ask(who);
                due("the first is asked anew", x.told(who, nodes[i] + 1, 1), 1 + ends);
            }
        }
        WishTrees x = new WishTrees();
        learn(x, 3, 0, 2, 0, 0, 0);
        int who = grow(x, memo(2), fact(0), act(0));
        for (int round = 0; round < 2; round++) {
            x.world(1);
            x.ask(who);
            due("at 1", x.told(who, 0, 3), 1);
            x.world(2);
            due("failed", x.ask(who), FAILED);
            due("begins anew", x.told(who, 0, 3), 0);
        }
        x.world(1);
        x.ticks(2);
        due("at 1 still", x.told(who, 0, 3), 1);
        due("done", x.ask(who), DONE);
        due("begins anew behind done", x.told(who, 0, 3), 0);
    }

    private static void givenAnew() {
        says("A CREATURE gets a whole TREE (NONE: none)");
        WishTrees x = new WishTrees();
        x.doing(9, 0);
        int who = grow(x, beside(3, 3), again(9), fact(0), memo(3), fact(0), fact(0), act(0), fact(1));
        x.world(3);
        for (int ticks = 0; ticks < 4; ticks++) {
            x.ticks(ticks);
            due("done so often", x.told(who, 1, 3), ticks);
            due("goes on with", x.told(who, 3, 3), ticks == 0 ? 0 : 2);
            due("given the same", x.give(who, 0), ticks == 0 ? 0 : 1);
            due("none since", x.told(who, 1, 3), 0);
            due("goes on with the first", x.told(who, 3, 3), 0);
        }
    }

    private static void againBeginsAnew() {
        says("A MEMO, AGAIN begins anew when it was not asked in this TICK, or is within such a BESIDE, or answered DONE, "
            + "FAILED;");
        int[][][] around = {{els(2), fact(4), again(9), fact(0)},
            {beside(2, 1), fact(4), again(9), fact(0)},
            {beside(2, 2), fact(5), again(9), fact(0)}};
        int[] first = {1, 1, 33};
        int[] then = {17, 17, 1};
        for (int i = 0; i < around.length; i++) {
            for (int ends = 0; ends < 2; ends++) {
                WishTrees x = new WishTrees();
                int who = grow(x, around[i]);
                x.world(first[i]);
                x.ticks(2);
                due("twice", x.told(who, 2, 3), 2);
                x.world(ends == 1 ? then[i] : first[i]);
                x.ask(who);
                due("around " + i + " ends " + ends, x.told(who, 2, 3), 3 - 3 * ends);
                x.world(first[i]);
                x.ask(who);
                due("counted on", x.told(who, 2, 3), 4 - 3 * ends);
            }
        }
    }

    private static void anothersTick() {
        says("A TICK of a CREATURE: its TREE's first NODE is asked.");
        WishTrees x = new WishTrees();
        int d = effective(x, 5, 0, 0, 1);
        x.facts(d, true, 8, 8);
        int who = grow(x, beside(4, 4), act(d), memo(2), fact(0), act(d), again(3), fact(0), wish(8, 8));
        int other = grow(x, beside(1, 1), fact(7));
        x.world(1);
        x.ask(who);
        for (int i = 0; i < 3; i++) {
            due("the other fails", x.ask(other), FAILED);
        }
        due("other's ticks break nothing off", x.count(who, 2) + x.has(0, 0), 0);
        due("left", x.told(who, 1, 2) * 100 + x.told(who, 4, 2) * 10 + x.told(who, 7, 2), 444);
        due("memo and again", x.told(who, 2, 3) * 10 + x.told(who, 5, 3), 11);
        due("plan", x.plan(who, 7, 0), d);
        due("given to the other", x.give(other, NONE), 0);
        due("breaks nothing off", x.count(who, 2), 0);
        due("goes on", x.ask(who), UNDER_WAY);
        due("left less", x.told(who, 1, 2) * 100 + x.told(who, 4, 2) * 10 + x.told(who, 7, 2), 333);
    }
}
