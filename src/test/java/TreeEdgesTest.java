/** The boundary cases of the promises 12 to 18, sentence by sentence: trees, best ones and ranks. */
public final class TreeEdgesTest {
    private static final String STAR = "[0, 0, 0, 0, 0, 0]";

    public static void main(String[] args) {
        Check.sentence("12: Returns how many allowed trees there are", TreeEdgesTest::treesBySize);
        Check.sentence("12: of one word", TreeEdgesTest::treesOfOneWord);
        Check.sentence("12: with each single arc forced", TreeEdgesTest::treesWithOneForced);
        Check.sentence("12: none", TreeEdgesTest::noTrees);
        Check.sentence("12: one alone", TreeEdgesTest::oneTree);
        Check.sentence("13: Returns the score of the best tree", TreeEdgesTest::extremes);
        Check.sentence("13: found by contracting circles", TreeEdgesTest::oneCircle);
        Check.sentence("13: by contracting circles of circles", TreeEdgesTest::circlesOfCircles);
        Check.sentence("13: by contracting a circle of all words", TreeEdgesTest::circleOfAll);
        Check.sentence("13: found by tables over spans", TreeEdgesTest::spans);
        Check.sentence("13: behind each change", TreeEdgesTest::bestAfterChanges);
        Check.sentence("13: if there is no such tree", TreeEdgesTest::noBest);
        Check.sentence("14: Returns the same, found by trying all trees", TreeEdgesTest::sameByTrying);
        Check.sentence("14: if there is no such tree", TreeEdgesTest::noBestByTrying);
        Check.sentence("15: Returns the head of a word in the best tree", TreeEdgesTest::headsOfBest);
        headsAndRanks();
        Check.end("TreeEdgesTest");
    }

    private static void headsAndRanks() {
        Check.sentence("15: Returns 0 for the root", TreeEdgesTest::headRoot);
        Check.sentence("15: if there is no such sentence or word", TreeEdgesTest::headOfNoWord);
        Check.sentence("15: if there is no such tree", TreeEdgesTest::headInNoTree);
        Check.sentence("15: of trees of the same score", TreeEdgesTest::headOfSameScore);
        Check.sentence("16: how many pairs of arcs cross", TreeEdgesTest::fewestAndMostCrossings);
        Check.sentence("16: in the best tree of all allowed ones", TreeEdgesTest::crossingsOfBest);
        Check.sentence("16: if there is no such tree", TreeEdgesTest::crossingsOfNoTree);
        Check.sentence("17: rank: 0 for the best one", TreeEdgesTest::firstRank);
        Check.sentence("17: or there are not so many trees", TreeEdgesTest::lastRank);
        Check.sentence("17: of a sentence that has no tree", TreeEdgesTest::ranksOfNoTree);
        Check.sentence("18: a tree by its rank", TreeEdgesTest::lastTrees);
        Check.sentence("18: Returns 0 for the root", TreeEdgesTest::rankedRoot);
        Check.sentence("18: no such sentence or word, or not so many trees", TreeEdgesTest::rankedHeadRefused);
    }

    private static void treesBySize() {
        int[] all = {1, 1, 3, 16, 125, 1296, 16807};
        int[] plain = {1, 1, 3, 12, 55, 273, 1428};
        for (int words = 0; words <= 6; words++) {
            ArcLight light = Made.alike(words);
            Check.due("of " + words + " words", light.trees(0, true), all[words]);
            Check.due("of " + words + " words, without crossings", light.trees(0, false), plain[words]);
        }
    }

    private static void treesOfOneWord() {
        ArcLight light = Made.with(3);
        for (boolean crossing : Made.BOTH_WAYS) {
            Check.due("free", light.trees(0, crossing), 1);
            light.mark(0, 0, 1, ArcLight.FORCED);
            Check.due("forced", light.trees(0, crossing), 1);
            light.mark(0, 0, 1, ArcLight.FORBIDDEN);
            Check.due("forbidden", light.trees(0, crossing), 0);
            light.mark(0, 0, 1, ArcLight.FREE);
        }
    }

    /** Of the 16 trees of three words eight have an arc from the root, four one from another word. */
    private static void treesWithOneForced() {
        for (int word = 1; word <= 3; word++) {
            for (int head = 0; head <= 3; head++) {
                if (head == word) {
                    continue;
                }
                ArcLight light = Made.alike(3);
                light.mark(0, head, word, ArcLight.FORCED);
                int with = head == 0 ? 8 : 4;
                Check.due("with " + head + " to " + word, light.trees(0, true), with);
                light.mark(0, head, word, ArcLight.FORBIDDEN);
                Check.due("without " + head + " to " + word, light.trees(0, true), 16 - with);
            }
        }
    }

    private static void noTrees() {
        for (boolean crossing : Made.BOTH_WAYS) {
            for (int word = 1; word <= 6; word++) {
                ArcLight light = Made.forbidAll(Made.alike(6), 0, word);
                Check.due("no arc to " + word, light.trees(0, crossing), 0);
            }
            ArcLight rootless = Made.alike(6);
            for (int word = 1; word <= 6; word++) {
                rootless.mark(0, 0, word, ArcLight.FORBIDDEN);
            }
            Check.due("no arc from the root", rootless.trees(0, crossing), 0);
            ArcLight circle = Made.force(Made.alike(6), 0, -1, -1, -1, -1, 6, 5);
            Check.due("a circle of the last two", circle.trees(0, crossing), 0);
        }
        ArcLight crossed = Made.force(Made.alike(6), 0, 3, 4);
        Check.due("arcs that cross, without crossings", crossed.trees(0, false), 0);
        Check.due("arcs that cross", crossed.trees(0, true), 343);
    }

    private static void oneTree() {
        ArcLight crossed = Made.force(Made.alike(6), 0, 4, 5, 6, 0, 1, 2);
        Check.due("forced with crossings", crossed.trees(0, true), 1);
        Check.due("forced with crossings, without", crossed.trees(0, false), 0);
        ArcLight light = Made.alike(6);
        for (int word = 1; word <= 6; word++) {
            for (int head = 0; head <= 6; head++) {
                if (head != word && head != word - 1) {
                    light.mark(0, head, word, ArcLight.FORBIDDEN);
                }
            }
        }
        Check.due("all but one forbidden", light.trees(0, true), 1);
        Check.due("all but one forbidden, without crossings", light.trees(0, false), 1);
        Check.due("its heads", Made.bestHeads(light, 0, true), "[0, 1, 2, 3, 4, 5]");
    }

    private static void extremes() {
        Made.dueBest("no words", Made.with(), 0, 0);
        Made.dueBest("weights 0", Made.alike(6), 0, 0);
        ArcLight one = Made.with(3);
        one.setWeight(19, 100);
        one.setWeight(20, 100);
        Made.dueBest("one word, the greatest", one, 200, 200);
        one.setWeight(19, -100);
        one.setWeight(20, -100);
        Made.dueBest("one word, the least", one, -200, -200);
        ArcLight six = Made.alike(6);
        for (int feature = 0; feature < 28; feature++) {
            six.setWeight(feature, 100);
        }
        Made.dueBest("six words, the greatest", six, 1200, 1200);
        for (int feature = 0; feature < 28; feature++) {
            six.setWeight(feature, -100);
        }
        Made.dueBest("six words, the least", six, -1200, -1200);
    }

    /** The words 1 and 2 take each other's arcs; one of them must come from the root instead. */
    private static void oneCircle() {
        ArcLight light = Made.with(0, 1);
        light.setWeight(1, 50);
        light.setWeight(4, 60);
        Made.dueBest("a circle of two", light, 60, 60);
        Check.due("heads", Made.bestHeads(light, 0, true), "[2, 0]");
        light.setWeight(16, 11);
        Made.dueBest("another arc into it", light, 61, 61);
        Check.due("heads then", Made.bestHeads(light, 0, true), "[0, 1]");
        light.setWeight(16, 10);
        Made.dueBest("both alike", light, 60, 60);
        Check.due("the lower head", Made.bestHeads(light, 0, true), "[0, 1]");
    }

    /** Both pairs of a kind make circles, and these one of their own: 40 + 10 + 50 is the most. */
    private static void circlesOfCircles() {
        ArcLight light = Made.with(0, 0, 1, 1);
        light.setWeight(0, 50);
        light.setWeight(5, 40);
        light.setWeight(1, 10);
        light.setWeight(4, 8);
        Made.dueBest("circles of a circle", light, 100, 100);
        Check.due("heads", Made.bestHeads(light, 0, true), "[0, 1, 1, 3]");
        Check.due("heads without crossings", Made.bestHeads(light, 0, false), "[0, 1, 1, 3]");
        light.setWeight(4, 11);
        Made.dueBest("the other way round", light, 101, 101);
        Check.due("heads then", Made.bestHeads(light, 0, true), "[2, 3, 0, 3]");
    }

    /** All words but one come from the next one; the way from the root falls where it loses least. */
    private static void circleOfAll() {
        ArcLight light = Made.with(0, 1, 2, 3);
        int[] circle = {1, 6, 11, 12};
        for (int feature : circle) {
            light.setWeight(feature, 30);
        }
        Check.due("the best has no crossings", light.crossings(0), 0);
        Made.dueBest("a circle of all", light, 90, 90);
        Check.due("the first from the root", Made.bestHeads(light, 0, true), "[0, 1, 2, 3]");
        light.setWeight(18, 5);
        Made.dueBest("the third from the root, across the arc 4 to 1", light, 95, 90);
        Check.due("heads then", Made.bestHeads(light, 0, true), "[4, 1, 0, 3]");
    }

    /** The best tree, of 18, has crossings; without them one of the two arcs is lost. */
    private static void spans() {
        ArcLight light = Made.with(0, 1, 2, 3);
        light.setWeight(2, 9);
        light.setWeight(7, 9);
        Made.dueBest("two arcs that cross", light, 18, 9);
        light.setWeight(23, 10);
        Made.dueBest("their words' arcs back", light, 20, 10);
        light.mark(0, 1, 3, ArcLight.FORCED);
        light.mark(0, 2, 4, ArcLight.FORCED);
        Check.due("both forced", light.best(0, true), 18);
        Check.badState("both forced, without crossings", () -> light.best(0, false));
    }

    private static void bestAfterChanges() {
        ArcLight light = Made.with(0, 1);
        light.setWeight(4, 5);
        Made.dueBest("set", light, 5, 5);
        light.mark(0, 2, 1, ArcLight.FORBIDDEN);
        Made.dueBest("forbidden", light, 0, 0);
        light.mark(0, 2, 1, ArcLight.FREE);
        Made.dueBest("free", light, 5, 5);
        light.addWord(0, 0);
        Made.dueBest("with another word", light, 10, 10);
        light.rollBack();
        Made.dueBest("rolled back", light, 0, 0);
    }

    private static ArcLight noneAtAll() {
        return Made.forbidAll(Made.with(0, 1, 2), 0, 2);
    }

    private static ArcLight noneWithoutCrossings() {
        return Made.force(Made.with(0, 1, 2, 3), 0, 3, 4);
    }

    private static void noBest() {
        Check.badState("best", () -> noneAtAll().best(0, true));
        Check.badState("without crossings", () -> noneAtAll().best(0, false));
        Check.badState("without crossings alone", () -> noneWithoutCrossings().best(0, false));
        Check.due("with crossings", noneWithoutCrossings().best(0, true), 0);
        ArcLight circle = Made.force(Made.alike(2), 0, 2, 1);
        Check.badState("a forced circle", () -> circle.best(0, true));
        Check.badState("a forced circle, without crossings", () -> circle.best(0, false));
        ArcLight first = Made.alike(6);
        for (int word = 1; word <= 6; word++) {
            first.mark(0, 0, word, ArcLight.FORBIDDEN);
        }
        Check.badState("no arc from the root", () -> first.best(0, true));
        Check.badState("no arc from the root, without crossings", () -> first.best(0, false));
    }

    private static void sameByTrying() {
        ArcLight light = Made.with(3, 1, 0, 2, 1, 0);
        for (int feature = 0; feature < 28; feature++) {
            light.setWeight(feature, feature * 37 % 41 - 20);
            for (boolean crossing : Made.BOTH_WAYS) {
                Check.due("feature " + feature, light.bestByTrying(0, crossing), light.best(0, crossing));
            }
        }
    }

    private static void noBestByTrying() {
        Check.badState("bestByTrying", () -> noneAtAll().bestByTrying(0, true));
        Check.badState("without crossings", () -> noneAtAll().bestByTrying(0, false));
        Check.badState("without crossings alone", () -> noneWithoutCrossings().bestByTrying(0, false));
        Check.due("with crossings", noneWithoutCrossings().bestByTrying(0, true), 0);
    }

    private static void headsOfBest() {
        ArcLight light = Made.alike(6);
        light.setWeight(27, 1);
        Check.due("far from the right", Made.bestHeads(light, 0, true), "[5, 6, 0, 0, 0, 0]");
        Check.due("without crossings", Made.bestHeads(light, 0, false), "[6, 6, 2, 2, 2, 0]");
        light.setWeight(27, -1);
        Check.due("not far from the right", Made.bestHeads(light, 0, true), STAR);
    }

    private static void headRoot() {
        ArcLight light = Made.alike(6);
        for (boolean crossing : Made.BOTH_WAYS) {
            Check.due("first word", light.head(0, crossing, 1), 0);
            Check.due("last word", light.head(0, crossing, 6), 0);
        }
    }

    private static void headOfNoWord() {
        ArcLight light = Made.alike(6);
        for (boolean crossing : Made.BOTH_WAYS) {
            for (int word : new int[] {0, 7, -1, Integer.MIN_VALUE, Integer.MAX_VALUE}) {
                Check.outOfBounds("word " + word, () -> light.head(0, crossing, word));
                Check.outOfBounds("sentence " + word, () -> light.head(word == 0 ? 1 : word, crossing, 1));
            }
            Check.outOfBounds("ahead of no tree", () -> noneAtAll().head(0, crossing, 4));
            Check.outOfBounds("an empty sentence", () -> Made.with().head(0, crossing, 1));
        }
    }

    private static void headInNoTree() {
        for (int word = 1; word <= 3; word++) {
            int of = word;
            Check.badState("with crossings", () -> noneAtAll().head(0, true, of));
            Check.badState("without", () -> noneAtAll().head(0, false, of));
            Check.badState("without crossings alone", () -> noneWithoutCrossings().head(0, false, of));
        }
        Check.due("with crossings there is one", noneWithoutCrossings().head(0, true, 1), 3);
    }

    /** The lower head of the first word that differs comes first, whatever the later words then have. */
    private static void headOfSameScore() {
        ArcLight light = Made.alike(3);
        light.mark(0, 0, 1, ArcLight.FORBIDDEN);
        Check.due("without 0 to 1", Made.bestHeads(light, 0, true), "[2, 0, 0]");
        light.mark(0, 2, 1, ArcLight.FORBIDDEN);
        Check.due("nor 2 to 1", Made.bestHeads(light, 0, true), "[3, 0, 0]");
        Check.due("without crossings", Made.bestHeads(light, 0, false), "[3, 1, 0]");
        light.mark(0, 0, 3, ArcLight.FORBIDDEN);
        Check.due("nor 0 to 3", Made.bestHeads(light, 0, true), "[3, 0, 2]");
        Check.due("and without crossings", light.trees(0, false), 0);
    }

    private static void fewestAndMostCrossings() {
        Check.due("no words", Made.with().crossings(0), 0);
        Check.due("one word", Made.alike(1).crossings(0), 0);
        Check.due("two words", Made.force(Made.alike(2), 0, 2, 0).crossings(0), 0);
        Check.due("a chain", Made.force(Made.alike(6), 0, 0, 1, 2, 3, 4, 5).crossings(0), 0);
        Check.due("one pair", Made.force(Made.alike(3), 0, 0, 0, 1).crossings(0), 1);
        Check.due("ten pairs", Made.force(Made.alike(6), 0, 4, 5, 6, 0, 1, 2).crossings(0), 10);
    }

    /** The best tree of all has crossings; it comes first although a tree without them is as good. */
    private static void crossingsOfBest() {
        ArcLight light = Made.alike(3);
        light.mark(0, 1, 3, ArcLight.FORCED);
        Check.due("[0, 0, 1] is the first one", light.crossings(0), 1);
        Check.due("best of those without", Made.bestHeads(light, 0, false), "[0, 1, 1]");
        light.setWeight(20, 1);
        Check.due("[0, 1, 1] is the best one", light.crossings(0), 0);
    }

    private static void crossingsOfNoTree() {
        Check.badState("no tree", () -> noneAtAll().crossings(0));
        Check.due("trees with crossings alone", noneWithoutCrossings().crossings(0), 2);
    }

    private static void firstRank() {
        ArcLight light = Made.with(2);
        light.setWeight(18, -7);
        for (boolean crossing : Made.BOTH_WAYS) {
            Check.due("the only one", light.ranked(0, crossing, 0), -7);
            Check.outOfBounds("rank -1", () -> light.ranked(0, crossing, -1));
            Check.outOfBounds("rank 1", () -> light.ranked(0, crossing, 1));
        }
    }

    private static void lastRank() {
        ArcLight light = Made.alike(6);
        light.setWeight(16, 1);
        Check.due("the first of all", light.ranked(0, true, 0), 6);
        Check.due("the last of all", light.ranked(0, true, 16806), 1);
        Check.due("the first without crossings", light.ranked(0, false, 0), 6);
        Check.due("the last without crossings", light.ranked(0, false, 1427), 1);
        for (int rank : new int[] {16807, Integer.MAX_VALUE, Integer.MIN_VALUE, -1, -16807}) {
            Check.outOfBounds("rank " + rank, () -> light.ranked(0, true, rank));
            Check.outOfBounds("rank " + rank + " without crossings", () -> light.ranked(0, false, rank));
        }
        Check.outOfBounds("rank 1428 without crossings", () -> light.ranked(0, false, 1428));
        Check.due("rank 1428 of all", light.ranked(0, true, 1428) > 0, true);
        light.setWeight(16, -1);
        Check.due("the last of all, all from the root", light.ranked(0, true, 16806), -6);
        Check.due("its heads", Made.rankedHeads(light, 0, true, 16806), STAR);
        Check.due("the last but one", light.ranked(0, true, 16805), -5);
        Check.due("the last without crossings, all from the root", light.ranked(0, false, 1427), -6);
    }

    private static void ranksOfNoTree() {
        for (boolean crossing : Made.BOTH_WAYS) {
            Check.outOfBounds("ranked", () -> noneAtAll().ranked(0, crossing, 0));
            Check.outOfBounds("rankedHead", () -> noneAtAll().rankedHead(0, crossing, 0, 1));
        }
        Check.outOfBounds("without crossings alone", () -> noneWithoutCrossings().ranked(0, false, 0));
        Check.due("of all", noneWithoutCrossings().ranked(0, true, 0), 0);
    }

    private static void lastTrees() {
        ArcLight light = Made.alike(6);
        Check.due("the first", Made.rankedHeads(light, 0, true, 0), STAR);
        Check.due("the second", Made.rankedHeads(light, 0, true, 1), "[0, 0, 0, 0, 0, 1]");
        Check.due("the last", Made.rankedHeads(light, 0, true, 16806), "[6, 6, 6, 6, 6, 0]");
        Check.due("the first without crossings", Made.rankedHeads(light, 0, false, 0), STAR);
        Check.due("the second without crossings", Made.rankedHeads(light, 0, false, 1), "[0, 0, 0, 0, 0, 5]");
        Check.due("the last without crossings", Made.rankedHeads(light, 0, false, 1427), "[6, 6, 6, 6, 6, 0]");
    }

    private static void rankedRoot() {
        ArcLight light = Made.alike(2);
        Check.due("first word of the first tree", light.rankedHead(0, true, 0, 1), 0);
        Check.due("last word of the last tree", light.rankedHead(0, true, 2, 2), 0);
        Check.due("first word of the last tree", light.rankedHead(0, true, 2, 1), 2);
    }

    private static void rankedHeadRefused() {
        ArcLight light = Made.alike(2);
        for (int number : new int[] {-1, 3, Integer.MIN_VALUE, Integer.MAX_VALUE}) {
            for (boolean crossing : Made.BOTH_WAYS) {
                Check.outOfBounds("sentence " + number, () -> light.rankedHead(number, crossing, 0, 1));
                Check.outOfBounds("word " + number, () -> light.rankedHead(0, crossing, 0, number));
                Check.outOfBounds("rank " + number, () -> light.rankedHead(0, crossing, number, 1));
            }
        }
        Check.outOfBounds("word 0", () -> light.rankedHead(0, true, 0, 0));
        Check.outOfBounds("an empty sentence", () -> Made.with().rankedHead(0, true, 0, 1));
    }
}
