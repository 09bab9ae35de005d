/** The boundary cases of the promises 19 to 24, sentence by sentence: right heads, mending, rolling back. */
public final class MendingEdgesTest {
    public static void main(String[] args) {
        Check.sentence("19: Tells the right head of a word", MendingEdgesTest::rootAndLastWord);
        Check.sentence("19: Returns the right head that was told before", MendingEdgesTest::toldBefore);
        Check.sentence("19: NONE if none was", MendingEdgesTest::noneTold);
        Check.sentence("19: if head and word are the same", MendingEdgesTest::sameHead);
        Check.sentence("19: right heads, whatever the marks", MendingEdgesTest::marksDoNotBind);
        Check.sentence("20: how many words have their right head", MendingEdgesTest::noneToAllMatched);
        Check.sentence("20: whose right head is not told do not count", MendingEdgesTest::untoldDoNotCount);
        Check.sentence("20: in its best tree of all allowed ones", MendingEdgesTest::matchedWithCrossings);
        Check.sentence("20: right heads that make no tree", MendingEdgesTest::matchedOnCircle);
        Check.sentence("20: if there is no allowed tree", MendingEdgesTest::matchedWithoutTree);
        Check.sentence("21: how many words had another head", MendingEdgesTest::noneToAllMended);
        Check.sentence("21: Mends the weights by a sentence", MendingEdgesTest::weightsOfAll);
        Check.sentence("21: its right heads are not all told", MendingEdgesTest::notAllTold);
        Check.sentence("21: or make no tree", MendingEdgesTest::noRightTree);
        Check.sentence("21: or there is no allowed tree", MendingEdgesTest::noAllowedTree);
        Check.sentence("21: a right tree that is not allowed", MendingEdgesTest::rightTreeNotAllowed);
        stepsAndRollingBack();
        Check.end("MendingEdgesTest");
    }

    private static void stepsAndRollingBack() {
        Check.sentence("22: those that were rolled back not counted", MendingEdgesTest::stepsRolledBack);
        Check.sentence("22: setting is no step, nor is a refused mending", MendingEdgesTest::noSteps);
        Check.sentence("22: more steps than can be rolled back", MendingEdgesTest::stepsBeyond20);
        Check.sentence("23: 0.0 without steps", MendingEdgesTest::averageWithoutSteps);
        Check.sentence("23: the sum, as a double, divided", MendingEdgesTest::averageIsDouble);
        Check.sentence("23: if there is no such feature", MendingEdgesTest::averageOfNoFeature);
        Check.sentence("24: the latest that was not rolled back yet", MendingEdgesTest::notRolledBackYet);
        Check.sentence("24: averages are then as if it had not been", MendingEdgesTest::averageRolledBack);
        Check.sentence("24: how many more of the latest 20", MendingEdgesTest::leftOf20);
        Check.sentence("24: of 20, all rolled back, and 20 new ones", MendingEdgesTest::twiceAround);
        Check.sentence("24: always one", MendingEdgesTest::oneByOne);
        Check.sentence("24: if there is none", MendingEdgesTest::noneLeft);
        Check.sentence("24: a refused call is none", MendingEdgesTest::refusedIsNone);
        Check.sentence("24: a setting to what it was is one", MendingEdgesTest::sameWeightIsOne);
        Check.sentence("24: nothing but weights and steps", MendingEdgesTest::othersStay);
    }

    private static void rootAndLastWord() {
        ArcLight light = Made.alike(6);
        light.correct(0, 0, 1);
        light.correct(0, 6, 5);
        light.correct(0, 1, 6);
        Check.due("the root", light.correct(0, 2, 1), 0);
        Check.due("the last word", light.correct(0, 0, 5), 6);
        Check.due("the first word", light.correct(0, 0, 6), 1);
        Check.outOfBounds("no head 7", () -> light.correct(0, 7, 1));
        Check.outOfBounds("no head -1, though it is NONE", () -> light.correct(0, ArcLight.NONE, 1));
        Check.outOfBounds("no word 7", () -> light.correct(0, 0, 7));
        Check.outOfBounds("the root is no word", () -> light.correct(0, 1, 0));
    }

    private static void toldBefore() {
        ArcLight light = Made.alike(3);
        Made.addSentence(light, 0, 0, 0);
        light.correct(0, 2, 1);
        Check.due("told", light.correct(0, 2, 1), 2);
        Check.due("the same again", light.correct(0, 3, 1), 2);
        Check.due("another one", light.correct(0, 0, 1), 3);
        Check.due("of another word", light.correct(0, 0, 2), ArcLight.NONE);
        Check.due("of another sentence", light.correct(1, 0, 1), ArcLight.NONE);
    }

    private static void noneTold() {
        ArcLight light = Made.alike(6);
        for (int word = 1; word <= 6; word++) {
            Check.due("word " + word, light.correct(0, word - 1, word), -1);
        }
    }

    private static void sameHead() {
        ArcLight light = Made.alike(2);
        for (int place = 1; place <= 2; place++) {
            int both = place;
            Check.badArgument("word " + both, () -> light.correct(0, both, both));
            Check.due("still not told", light.correct(0, 0, both), ArcLight.NONE);
        }
        Check.outOfBounds("no word 3", () -> light.correct(0, 3, 3));
        Check.outOfBounds("the root", () -> light.correct(0, 0, 0));
    }

    private static void marksDoNotBind() {
        ArcLight light = Made.alike(2);
        light.mark(0, 2, 1, ArcLight.FORBIDDEN);
        light.mark(0, 0, 2, ArcLight.FORCED);
        Check.due("a forbidden arc", light.correct(0, 2, 1), ArcLight.NONE);
        Check.due("beside a forced arc", light.correct(0, 1, 2), ArcLight.NONE);
        Check.due("told", light.correct(0, 0, 1), 2);
    }

    private static void noneToAllMatched() {
        ArcLight light = Made.force(Made.alike(6), 0, 2, 3, 4, 5, 6, 0);
        Made.correct(light, 0, 3, 4, 5, 6, 0, 1);
        Check.due("none", light.matched(0), 0);
        int[] heads = {2, 3, 4, 5, 6, 0};
        for (int word = 1; word <= 6; word++) {
            light.correct(0, heads[word - 1], word);
            Check.due("as many as told so", light.matched(0), word);
        }
        Check.due("of an empty sentence", Made.with().matched(0), 0);
    }

    private static void untoldDoNotCount() {
        ArcLight light = Made.alike(6);
        Check.due("none told", light.matched(0), 0);
        light.correct(0, 0, 6);
        Check.due("the last one told", light.matched(0), 1);
        light.correct(0, 0, 1);
        Check.due("and the first one", light.matched(0), 2);
        light.correct(0, 6, 1);
        Check.due("told otherwise", light.matched(0), 1);
    }

    private static void matchedWithCrossings() {
        ArcLight light = Made.force(Made.alike(4), 0, 3, 4, 0, 0);
        Made.correct(light, 0, 3, 4, 0, 0);
        Check.badState("no tree without crossings", () -> light.best(0, false));
        Check.due("all", light.matched(0), 4);
    }

    private static void matchedOnCircle() {
        ArcLight light = Made.force(Made.alike(2), 0, 2, 0);
        Made.correct(light, 0, 2, 1);
        Check.due("one", light.matched(0), 1);
    }

    private static void matchedWithoutTree() {
        ArcLight light = Made.correct(Made.alike(2), 0, 0, 0);
        Made.force(light, 0, 2, 1);
        Check.badState("a forced circle", () -> light.matched(0));
        light.mark(0, 2, 1, ArcLight.FREE);
        Check.due("no circle", light.matched(0), 1);
        Made.forbidAll(light, 0, 1);
        Check.badState("no arc to the word 1", () -> light.matched(0));
        Check.outOfBounds("no sentence 1", () -> light.matched(1));
    }

    private static void noneToAllMended() {
        ArcLight light = Made.force(Made.alike(6), 0, 2, 3, 4, 5, 6, 0);
        Made.correct(light, 0, 2, 3, 4, 5, 6, 0);
        Check.due("none", light.mend(0), 0);
        Made.correct(light, 0, 2, 3, 4, 5, 0, 0);
        Check.due("one", light.mend(0), 1);
        Made.correct(light, 0, 0, 1, 2, 3, 4, 5);
        Check.due("all", light.mend(0), 6);
        Check.due("of an empty sentence", Made.with().mend(0), 0);
    }

    /** The right arcs 0-1, 1-2, 2-3; the arcs of the best tree 2-1, 3-2, 0-3. */
    private static void weightsOfAll() {
        ArcLight light = Made.with(0, 1, 2);
        Made.force(light, 0, 2, 3, 0);
        Made.correct(light, 0, 0, 1, 2);
        Check.due("mend", light.mend(0), 3);
        int[] due = new int[28];
        due[16] = 1;
        due[1] = 1;
        due[6] = 1;
        due[20] = 3;
        due[4] = -1;
        due[9] = -1;
        due[18] = -1;
        due[21] = -2;
        due[24] = -1;
        for (int feature = 0; feature < 28; feature++) {
            Check.due("weight " + feature, light.weight(feature), due[feature]);
            Check.due("average " + feature, light.average(feature), (double) due[feature]);
        }
    }

    private static void notAllTold() {
        for (int untold = 1; untold <= 6; untold++) {
            ArcLight light = Made.alike(6);
            for (int word = 1; word <= 6; word++) {
                if (word != untold) {
                    light.correct(0, 0, word);
                }
            }
            Check.badState("all but " + untold, () -> light.mend(0));
            Check.due("steps", light.steps(), 0);
            light.correct(0, 0, untold);
            Check.due("all", light.mend(0), 0);
        }
        Check.badState("one word, not told", () -> Made.alike(1).mend(0));
    }

    private static void noRightTree() {
        int[][] circles = {
            {2, 1}, {0, 3, 2}, {2, 1, 0}, {3, 0, 1}, {0, 0, 4, 5, 3, 0}, {2, 3, 4, 5, 6, 1}, {6, 1, 2, 3, 4, 5},
            {0, 1, 2, 3, 6, 5},
        };
        for (int[] heads : circles) {
            ArcLight light = Made.correct(Made.alike(heads.length), 0, heads);
            Check.badState("a circle in " + heads.length, () -> light.mend(0));
            Check.due("steps", light.steps(), 0);
            Check.badState("nothing to roll back", light::rollBack);
        }
        int[][] trees = {{0, 1, 2, 3, 4, 5}, {2, 3, 4, 5, 6, 0}, {6, 6, 6, 6, 6, 0}, {3, 4, 5, 6, 0, 0}};
        for (int[] heads : trees) {
            ArcLight light = Made.correct(Made.alike(6), 0, heads);
            Check.due("a tree", light.mend(0) > 0, true);
        }
    }

    private static void noAllowedTree() {
        ArcLight light = Made.correct(Made.alike(6), 0, 0, 1, 2, 3, 4, 5);
        Made.forbidAll(light, 0, 6);
        Check.badState("mend", () -> light.mend(0));
        Check.due("steps", light.steps(), 0);
        Check.badState("nothing to roll back", light::rollBack);
        light.mark(0, 0, 6, ArcLight.FREE);
        Check.due("one arc to the word 6", light.mend(0), 5);
        ArcLight crossed = Made.correct(Made.force(Made.alike(4), 0, 3, 4), 0, 0, 0, 0, 0);
        Check.due("trees with crossings alone", crossed.mend(0), 2);
    }

    private static void rightTreeNotAllowed() {
        ArcLight light = Made.correct(Made.alike(1), 0, 0);
        light.mark(0, 0, 1, ArcLight.FORBIDDEN);
        Check.badState("the only one", () -> light.mend(0));
        ArcLight two = Made.correct(Made.alike(2), 0, 0, 1);
        two.mark(0, 0, 1, ArcLight.FORCED);
        two.mark(0, 1, 2, ArcLight.FORBIDDEN);
        for (int step = 1; step <= 3; step++) {
            Check.due("each time", two.mend(0), 1);
            Check.due("weight of the right arc", two.weight(0), step);
        }
    }

    private static void stepsRolledBack() {
        ArcLight light = Made.with();
        light.mend(0);
        light.mend(0);
        light.rollBack();
        Check.due("one", light.steps(), 1);
        light.mend(0);
        Check.due("two", light.steps(), 2);
        light.rollBack();
        light.rollBack();
        Check.due("none", light.steps(), 0);
        Check.badState("none below", light::rollBack);
        Check.due("none still", light.steps(), 0);
    }

    private static void noSteps() {
        ArcLight light = Made.alike(1);
        Check.due("at first", light.steps(), 0);
        light.setWeight(0, 1);
        Check.badState("refused", () -> light.mend(0));
        Check.outOfBounds("refused", () -> light.mend(1));
        light.correct(0, 0, 1);
        Check.due("still", light.steps(), 0);
        light.rollBack();
        Check.due("a setting rolled back", light.steps(), 0);
    }

    private static void stepsBeyond20() {
        ArcLight light = Made.correct(Made.force(Made.alike(2), 0, 2, 0), 0, 0, 0);
        for (int step = 1; step <= 25; step++) {
            light.mend(0);
        }
        Check.due("steps", light.steps(), 25);
        Check.due("average", light.average(21), -13.0);
        for (int left = 19; left >= 0; left--) {
            Check.due("left", light.rollBack(), left);
            Check.due("steps left", light.steps(), left + 5);
            Check.due("weight left", light.weight(21), -left - 5);
            Check.due("average left", light.average(21), -(left + 6) / 2.0);
        }
        Check.badState("the first five are for good", light::rollBack);
        Check.due("steps in the end", light.steps(), 5);
        Check.due("average in the end", light.average(21), -3.0);
    }

    private static void averageWithoutSteps() {
        ArcLight light = Made.with();
        light.setWeight(0, -100);
        Check.due("at first", light.average(0), 0.0);
        light.mend(0);
        Check.due("with one", light.average(0), -100.0);
        light.rollBack();
        Check.due("rolled back", light.average(0), 0.0);
        Check.due("of a weight of 0", light.average(27), 0.0);
    }

    private static void averageIsDouble() {
        ArcLight light = Made.with();
        int[] weights = {1, 0, 0, -3, 100, 100, -100};
        double[] averages = {1.0, 0.5, 1.0 / 3.0, -0.5, 19.6, 33.0, 14.0};
        for (int step = 0; step < weights.length; step++) {
            light.setWeight(27, weights[step]);
            light.mend(0);
            Check.due("of " + (step + 1), light.average(27), averages[step]);
        }
        Check.due("of a weight that was always 0", light.average(26), 0.0);
    }

    private static void averageOfNoFeature() {
        ArcLight light = Made.with();
        for (int round = 0; round < 2; round++) {
            for (int feature : new int[] {-1, 28, Integer.MIN_VALUE, Integer.MAX_VALUE}) {
                Check.outOfBounds("feature " + feature, () -> light.average(feature));
            }
            light.mend(0);
        }
        Check.due("the first feature", light.average(0), 0.0);
        Check.due("the last feature", light.average(27), 0.0);
    }

    private static void notRolledBackYet() {
        ArcLight light = new ArcLight();
        light.setWeight(0, 1);
        light.setWeight(0, 2);
        Check.due("the second", light.rollBack(), 1);
        light.setWeight(0, 3);
        Check.due("the third", light.rollBack(), 1);
        Check.due("weight behind the first", light.weight(0), 1);
        Check.due("the first, since the second was", light.rollBack(), 0);
        Check.due("weight ahead of all", light.weight(0), 0);
    }

    private static void averageRolledBack() {
        ArcLight light = Made.with();
        light.setWeight(4, 8);
        light.mend(0);
        light.setWeight(4, 2);
        light.mend(0);
        Check.due("of 8 and 2", light.average(4), 5.0);
        light.rollBack();
        Check.due("of 8", light.average(4), 8.0);
        Check.due("weight still", light.weight(4), 2);
        light.rollBack();
        Check.due("of 8 still", light.average(4), 8.0);
        Check.due("weight then", light.weight(4), 8);
        light.mend(0);
        Check.due("of 8 and 8", light.average(4), 8.0);
        light.rollBack();
        light.rollBack();
        Check.due("of none", light.average(4), 0.0);
        light.rollBack();
        light.mend(0);
        Check.due("of 0", light.average(4), 0.0);
    }

    private static void leftOf20() {
        for (int changes = 1; changes <= 45; changes++) {
            ArcLight light = Made.with();
            for (int change = 1; change <= changes; change++) {
                light.setWeight(0, change);
            }
            int kept = Math.min(changes, 20);
            Check.due("left of " + changes, light.rollBack(), kept - 1);
            light.setWeight(0, 99);
            Check.due("left with a new one", light.rollBack(), kept - 1);
            for (int left = kept - 2; left >= 0; left--) {
                Check.due("left then", light.rollBack(), left);
            }
            Check.due("weight in the end", light.weight(0), changes - kept);
            Check.badState("no more of " + changes, light::rollBack);
        }
    }

    private static void twiceAround() {
        ArcLight light = Made.with();
        for (int round = 0; round < 3; round++) {
            for (int change = 1; change <= 10; change++) {
                light.setWeight(7, 10 * round + change);
                light.mend(0);
            }
            for (int left = 19; left >= 0; left--) {
                Check.due("left", light.rollBack(), left);
            }
            Check.badState("no more", light::rollBack);
            Check.due("weight", light.weight(7), 0);
            Check.due("steps", light.steps(), 0);
        }
    }

    private static void oneByOne() {
        ArcLight light = new ArcLight();
        for (int weight = 1; weight <= 60; weight++) {
            light.setWeight(weight % 28, weight);
            Check.due("left", light.rollBack(), 0);
            Check.due("weight", light.weight(weight % 28), 0);
        }
        Check.badState("none", light::rollBack);
    }

    private static void noneLeft() {
        Check.badState("of a new object", () -> new ArcLight().rollBack());
        ArcLight light = Made.correct(Made.alike(2), 0, 0, 0);
        light.mark(0, 0, 1, ArcLight.FORCED);
        Check.badState("words, marks and right heads are none", light::rollBack);
        light.mend(0);
        light.rollBack();
        Check.badState("all rolled back", light::rollBack);
        Check.badState("again", light::rollBack);
    }

    private static void refusedIsNone() {
        ArcLight light = Made.alike(1);
        for (int weight = 1; weight <= 20; weight++) {
            light.setWeight(0, weight);
        }
        Check.badArgument("a weight", () -> light.setWeight(0, 101));
        Check.outOfBounds("a feature", () -> light.setWeight(28, 0));
        Check.badState("a mending", () -> light.mend(0));
        for (int left = 19; left >= 0; left--) {
            Check.due("left", light.rollBack(), left);
        }
        Check.due("the first one is kept", light.weight(0), 0);
    }

    private static void sameWeightIsOne() {
        ArcLight light = new ArcLight();
        light.setWeight(0, 5);
        light.setWeight(0, 5);
        Check.due("the second", light.rollBack(), 1);
        Check.due("weight", light.weight(0), 5);
        Check.due("the first", light.rollBack(), 0);
        Check.due("weight then", light.weight(0), 0);
    }

    private static void othersStay() {
        ArcLight light = Made.alike(2);
        light.setWeight(0, 5);
        light.addWord(0, 3);
        light.addSentence();
        light.mark(0, 2, 1, ArcLight.FORCED);
        light.correct(0, 3, 2);
        Check.due("rollBack", light.rollBack(), 0);
        Check.due("words", light.words(0), 3);
        Check.due("sentences", light.sentences(), 2);
        Check.due("mark", light.mark(0, 2, 1, ArcLight.FREE), ArcLight.FORCED);
        Check.due("right head", light.correct(0, 0, 2), 3);
    }
}
