import java.util.ArrayList;
import java.util.List;

/** The boundary cases that 'The public face' and 'Terms' of the document name, sentence by sentence. */
public final class TermsTest {
    public static void main(String[] args) {
        Check.sentence("An object is used for at most 512 calls", TermsTest::all512Calls);
        Check.sentence("There are at most 5", TermsTest::fiveSentences);
        Check.sentence("numbered from 0 on", TermsTest::sentencesFromZero);
        Check.sentence("of at most 6 words each", TermsTest::sixWordsEach);
        Check.sentence("The words of a sentence have the places 1, 2 and so on", TermsTest::placesFromOne);
        Check.sentence("the place 0, ahead of all of them, is the root", TermsTest::rootAhead);
        Check.sentence("Each word has a kind, 0 to 3", TermsTest::kinds);
        Check.sentence("a word, which is another place", TermsTest::headIsAnotherPlace);
        Check.sentence("A tree gives each word of a sentence one head", TermsTest::oneHeadEach);
        Check.sentence("so that from each word one comes to the root", TermsTest::noCircles);
        Check.sentence("A sentence without words has one tree", TermsTest::emptySentence);
        Check.sentence("Two arcs cross if just one of both ends", TermsTest::crossingPairs);
        Check.sentence("ends that are the same place neither lie between nor beyond", TermsTest::sharedEnds);
        crossingsAndFeatures();
        marksAndTrees();
        Check.end("TermsTest");
    }

    private static void crossingsAndFeatures() {
        Check.sentence("There are 28, numbered from 0 on", TermsTest::twentyEightFeatures);
        Check.sentence("each with a weight, 0 at first", TermsTest::weightsAtFirst);
        Check.sentence("4 times that of the head, where the root counts as kind 4", TermsTest::byKinds);
        Check.sentence("the lesser one of 4 and the distance", TermsTest::byDistance);
        Check.sentence("1 more if the head is to the right", TermsTest::headToTheRight);
        Check.sentence("The score of an arc is the sum of the weights", TermsTest::arcScores);
        Check.sentence("that of a tree the sum of the scores of its arcs", TermsTest::treeScores);
    }

    private static void marksAndTrees() {
        Check.sentence("Each arc is FREE, at first", TermsTest::freeAtFirst);
        Check.sentence("At most one arc to a word is forced", TermsTest::oneForced);
        Check.sentence("A tree is allowed if it has all forced arcs", TermsTest::allForced);
        Check.sentence("and no forbidden one", TermsTest::noneForbidden);
        Check.sentence("all allowed ones, or those alone of which no two arcs cross", TermsTest::twoWays);
        Check.sentence("ranked by falling scores", TermsTest::fallingScores);
        Check.sentence("those with the same score by the heads of their words", TermsTest::sameScore);
        Check.sentence("the same, of trees without crossings", TermsTest::sameScorePlain);
        Check.sentence("The best tree is the first one", TermsTest::bestIsFirst);
        Check.sentence("right heads are all told and make a tree", TermsTest::rightHeads);
        Check.sentence("Its best tree, of all allowed ones", TermsTest::mendingComparesCrossing);
        Check.sentence("1 greater, then those of the arc of the best tree 1 less", TermsTest::bothFeatures);
        Check.sentence("Each mending is one step, also if nothing differs", TermsTest::stepOfNothing);
        Check.sentence("the sum of what it was behind each step", TermsTest::behindEachStep);
        Check.sentence("can be rolled back, the latest one first", TermsTest::latestFirst);
        Check.sentence("the latest 20 are kept", TermsTest::twentyKept);
        Check.sentence("older ones are forgotten for good", TermsTest::forgottenForGood);
    }

    /** All six words are mended from the left to the right as often as 512 calls allow. */
    private static void all512Calls() {
        ArcLight light = Made.alike(6);
        Made.force(light, 0, 0, 1, 2, 3, 4, 5);
        Made.correct(light, 0, 2, 3, 4, 5, 6, 0);
        int calls = 1 + 6 + 6 + 6;
        int steps = 0;
        for (; calls < 506; calls++) {
            Check.due("mend", light.mend(0), 6);
            steps++;
        }
        Check.due("the 507th call", light.weight(20), -6 * steps);
        Check.due("the 508th call", light.weight(21), 5 * steps);
        Check.due("the 509th call", light.best(0, false), -36 * steps);
        Check.due("the 510th call", light.average(20), -3.0 * (steps + 1));
        Check.due("the 511th call", light.rollBack(), 19);
        Check.due("the 512th call", light.steps(), steps - 1);
    }

    private static void fiveSentences() {
        ArcLight light = new ArcLight();
        for (int number = 0; number < 5; number++) {
            Check.due("addSentence", light.addSentence(), number);
        }
        Check.badState("the sixth", light::addSentence);
        Check.badState("the sixth again", light::addSentence);
        Check.due("sentences", light.sentences(), 5);
        Check.due("a word in the last one", light.addWord(4, 0), 1);
    }

    private static void sentencesFromZero() {
        ArcLight light = new ArcLight();
        Check.outOfBounds("0 ahead of all", () -> light.words(0));
        for (int number = 0; number < 5; number++) {
            light.addSentence();
            int last = number;
            Check.due("the last one", light.words(last), 0);
            Check.outOfBounds("one behind the last", () -> light.words(last + 1));
        }
        Check.outOfBounds("-1", () -> light.words(-1));
    }

    private static void sixWordsEach() {
        ArcLight light = new ArcLight();
        for (int number = 0; number < 5; number++) {
            int last = light.addSentence();
            for (int words = 1; words <= 6; words++) {
                Check.due("addWord", light.addWord(last, words % 4), words);
            }
            Check.badState("the seventh word", () -> light.addWord(last, 0));
            Check.due("words", light.words(last), 6);
        }
        Check.due("words of the first still", light.words(0), 6);
    }

    private static void placesFromOne() {
        ArcLight light = Made.with(3, 0, 1, 2, 2, 3);
        int[] kinds = {3, 0, 1, 2, 2, 3};
        for (int place = 1; place <= 6; place++) {
            Check.due("kind at " + place, light.kind(0, place), kinds[place - 1]);
        }
        Check.outOfBounds("no word at 7", () -> light.kind(0, 7));
    }

    private static void rootAhead() {
        ArcLight light = Made.with(0, 0);
        Check.outOfBounds("kind of the root", () -> light.kind(0, 0));
        Check.outOfBounds("head of the root", () -> light.head(0, true, 0));
        Check.outOfBounds("arc to the root", () -> light.score(0, 1, 0));
        Check.due("to the first word", light.feature(0, 0, 1, true), 20);
        Check.due("to the second word", light.feature(0, 0, 2, true), 22);
        Check.due("the root is a head", light.head(0, true, 1), 0);
    }

    private static void kinds() {
        ArcLight light = Made.with();
        Check.badArgument("kind -1", () -> light.addWord(0, -1));
        Check.badArgument("kind 4, though the root counts as it", () -> light.addWord(0, 4));
        Check.due("kind 0", light.addWord(0, 0), 1);
        Check.due("kind 3", light.addWord(0, 3), 2);
        Check.due("first", light.kind(0, 1), 0);
        Check.due("last", light.kind(0, 2), 3);
    }

    private static void headIsAnotherPlace() {
        ArcLight light = Made.alike(6);
        for (int word = 1; word <= 6; word++) {
            int place = word;
            Check.badArgument("score of " + place, () -> light.score(0, place, place));
            Check.badArgument("mark of " + place, () -> light.mark(0, place, place, ArcLight.FREE));
            Check.badArgument("right head of " + place, () -> light.correct(0, place, place));
        }
        Check.outOfBounds("the root is no word", () -> light.score(0, 0, 0));
    }

    /** One word has one tree, since it can have the root alone as head. */
    private static void oneHeadEach() {
        ArcLight one = Made.with(2);
        Check.due("trees of one word", one.trees(0, true), 1);
        Check.due("without crossings", one.trees(0, false), 1);
        Check.due("its head", one.head(0, true, 1), 0);
        ArcLight two = Made.with(2, 2);
        Check.due("trees of two words", two.trees(0, true), 3);
        Check.due("both from the root", Made.rankedHeads(two, 0, true, 0), "[0, 0]");
        Check.due("the second from the first", Made.rankedHeads(two, 0, true, 1), "[0, 1]");
        Check.due("the first from the second", Made.rankedHeads(two, 0, true, 2), "[2, 0]");
    }

    private static void noCircles() {
        dueTrees("a circle of two", 0, 2, 1);
        dueTrees("a circle of two behind a word", 0, 0, 3, 2);
        dueTrees("a circle of three beside the root", 0, 0, 4, 2, 3);
        dueTrees("a circle of six", 0, 2, 3, 4, 5, 6, 1);
        dueTrees("a circle of six the other way", 0, 6, 1, 2, 3, 4, 5);
        dueTrees("the longest way to the root", 1, 2, 3, 4, 5, 6, 0);
        dueTrees("the longest way, from the right", 1, 0, 1, 2, 3, 4, 5);
        dueTrees("all from the root", 1, 0, 0, 0, 0, 0, 0);
    }

    private static void dueTrees(String what, int want, int... heads) {
        ArcLight light = Made.force(Made.alike(heads.length), 0, heads);
        Check.due(what, light.trees(0, true), want);
        Check.due(what + ", without crossings", light.trees(0, false), want);
    }

    private static void emptySentence() {
        ArcLight light = Made.with();
        light.setWeight(16, 9);
        for (boolean crossing : Made.BOTH_WAYS) {
            Check.due("trees", light.trees(0, crossing), 1);
            Check.due("best", light.best(0, crossing), 0);
            Check.due("bestByTrying", light.bestByTrying(0, crossing), 0);
            Check.due("ranked", light.ranked(0, crossing, 0), 0);
            Check.outOfBounds("no second tree", () -> light.ranked(0, crossing, 1));
            Check.outOfBounds("head", () -> light.head(0, crossing, 1));
            Check.outOfBounds("rankedHead", () -> light.rankedHead(0, crossing, 0, 1));
        }
        Check.due("crossings", light.crossings(0), 0);
        Check.due("matched", light.matched(0), 0);
        Check.due("mend", light.mend(0), 0);
        Check.due("steps", light.steps(), 1);
        Check.due("average", light.average(16), 9.0);
    }

    /** Whether two forced arcs, each a head and its word, cross in a sentence of six words. */
    private static void dueCross(boolean want, int head, int word, int otherHead, int otherWord) {
        ArcLight light = Made.alike(6);
        light.mark(0, head, word, ArcLight.FORCED);
        light.mark(0, otherHead, otherWord, ArcLight.FORCED);
        String what = "arcs " + head + " to " + word + " and " + otherHead + " to " + otherWord;
        Check.due(what + " cross", light.trees(0, false) == 0, want);
        Check.due(what + " make trees with crossings", light.trees(0, true) > 0, true);
    }

    private static void crossingPairs() {
        dueCross(true, 1, 3, 2, 4);
        dueCross(true, 3, 1, 4, 2);
        dueCross(true, 1, 3, 4, 2);
        dueCross(true, 3, 1, 2, 4);
        dueCross(true, 2, 4, 1, 3);
        dueCross(true, 0, 2, 1, 3);
        dueCross(true, 0, 2, 3, 1);
        dueCross(true, 0, 5, 1, 6);
        dueCross(true, 3, 6, 5, 2);
        dueCross(false, 1, 4, 2, 3);
        dueCross(false, 2, 3, 1, 4);
        dueCross(false, 4, 1, 3, 2);
        dueCross(false, 1, 2, 3, 4);
        dueCross(false, 0, 6, 5, 1);
        dueCross(false, 6, 1, 2, 5);
    }

    private static void sharedEnds() {
        dueCross(false, 1, 4, 1, 2);
        dueCross(false, 1, 4, 4, 2);
        dueCross(false, 4, 1, 4, 2);
        dueCross(false, 1, 3, 3, 5);
        dueCross(false, 3, 1, 3, 5);
        dueCross(false, 3, 1, 5, 3);
        dueCross(false, 0, 2, 0, 6);
        dueCross(false, 0, 3, 3, 6);
        ArcLight light = Made.force(Made.alike(4), 0, 2, 0, 0, 1);
        Check.due("0 to 2 and 0 to 3 over 1 to 4, but not 2 to 1", light.crossings(0), 2);
    }

    private static void twentyEightFeatures() {
        ArcLight light = new ArcLight();
        for (int feature = 0; feature < 28; feature++) {
            Check.due("set " + feature, light.setWeight(feature, feature + 1), 0);
        }
        for (int feature = 0; feature < 28; feature++) {
            Check.due("weight " + feature, light.weight(feature), feature + 1);
        }
        for (int feature : new int[] {-1, 28}) {
            Check.outOfBounds("setWeight " + feature, () -> light.setWeight(feature, 0));
            Check.outOfBounds("weight " + feature, () -> light.weight(feature));
            Check.outOfBounds("average " + feature, () -> light.average(feature));
        }
    }

    private static void weightsAtFirst() {
        ArcLight light = new ArcLight();
        for (int feature = 0; feature < 28; feature++) {
            Check.due("weight " + feature, light.weight(feature), 0);
        }
    }

    /** Each kind of head with each kind of word. */
    private static void byKinds() {
        for (int kind = 0; kind <= 3; kind++) {
            for (int other = 0; other <= 3; other++) {
                ArcLight light = Made.with(kind, other);
                Check.due("head " + kind + ", word " + other, light.feature(0, 1, 2, false), 4 * kind + other);
                Check.due("head " + other + ", word " + kind, light.feature(0, 2, 1, false), 4 * other + kind);
                Check.due("root, word " + kind, light.feature(0, 0, 1, false), 16 + kind);
                Check.due("root, word " + other, light.feature(0, 0, 2, false), 16 + other);
            }
        }
    }

    private static void byDistance() {
        ArcLight light = Made.alike(6);
        int[] fromRoot = {20, 22, 24, 26, 26, 26};
        for (int word = 1; word <= 6; word++) {
            Check.due("from the root to " + word, light.feature(0, 0, word, true), fromRoot[word - 1]);
        }
        Check.due("3, from 3 to 6", light.feature(0, 3, 6, true), 24);
        Check.due("4, from 2 to 6", light.feature(0, 2, 6, true), 26);
        Check.due("5, from 1 to 6", light.feature(0, 1, 6, true), 26);
    }

    private static void headToTheRight() {
        ArcLight light = Made.alike(6);
        int[] fromSixth = {27, 27, 25, 23, 21};
        for (int word = 1; word <= 5; word++) {
            Check.due("from 6 to " + word, light.feature(0, 6, word, true), fromSixth[word - 1]);
        }
        Check.due("from 6 to 1 by kinds", light.feature(0, 6, 1, false), 0);
    }

    private static void arcScores() {
        ArcLight light = Made.with(3, 3);
        light.setWeight(15, 100);
        light.setWeight(20, 100);
        light.setWeight(21, -100);
        light.setWeight(19, -100);
        light.setWeight(22, -100);
        Check.due("the greatest", light.score(0, 1, 2), 200);
        Check.due("none in all", light.score(0, 2, 1), 0);
        Check.due("the root's first", light.score(0, 0, 1), 0);
        Check.due("the least", light.score(0, 0, 2), -200);
    }

    private static void treeScores() {
        ArcLight light = Made.alike(6);
        for (int sign = -1; sign <= 1; sign += 2) {
            for (int feature = 0; feature < 28; feature++) {
                light.setWeight(feature, 100 * sign);
            }
            for (boolean crossing : Made.BOTH_WAYS) {
                Check.due("best", light.best(0, crossing), 1200 * sign);
                Check.due("bestByTrying", light.bestByTrying(0, crossing), 1200 * sign);
                int last = light.trees(0, crossing) - 1;
                Check.due("the last one", light.ranked(0, crossing, last), 1200 * sign);
            }
            Check.due("best heads", Made.bestHeads(light, 0, true), "[0, 0, 0, 0, 0, 0]");
        }
    }

    private static void freeAtFirst() {
        ArcLight light = Made.alike(6);
        for (int word = 1; word <= 6; word++) {
            for (int head = 0; head <= 6; head++) {
                if (head != word) {
                    Check.due("arc " + head + " to " + word, light.mark(0, head, word, ArcLight.FORBIDDEN),
                            ArcLight.FREE);
                }
            }
        }
        Check.due("all forbidden then", light.trees(0, true), 0);
    }

    private static void oneForced() {
        ArcLight light = Made.alike(6);
        light.mark(0, 6, 1, ArcLight.FORCED);
        for (int head : new int[] {0, 2, 3, 4, 5}) {
            Check.badState("from " + head, () -> light.mark(0, head, 1, ArcLight.FORCED));
        }
        Check.due("the same one again", light.mark(0, 6, 1, ArcLight.FORCED), ArcLight.FORCED);
        Check.due("an arc to another word", light.mark(0, 6, 2, ArcLight.FORCED), ArcLight.FREE);
        Check.due("freed", light.mark(0, 6, 1, ArcLight.FREE), ArcLight.FORCED);
        Check.due("now another one", light.mark(0, 0, 1, ArcLight.FORCED), ArcLight.FREE);
        Check.badState("now not that one", () -> light.mark(0, 6, 1, ArcLight.FORCED));
    }

    private static void allForced() {
        ArcLight light = Made.alike(3);
        light.mark(0, 1, 2, ArcLight.FORCED);
        Check.due("trees with the arc 1 to 2", light.trees(0, true), 4);
        light.mark(0, 2, 3, ArcLight.FORCED);
        Check.due("and 2 to 3", light.trees(0, true), 1);
        Check.due("their tree", Made.bestHeads(light, 0, true), "[0, 1, 2]");
        light.mark(0, 3, 1, ArcLight.FORCED);
        Check.due("and 3 to 1", light.trees(0, true), 0);
        light.mark(0, 3, 1, ArcLight.FREE);
        light.mark(0, 0, 2, ArcLight.FORBIDDEN);
        Check.due("forced where another is forbidden", light.trees(0, true), 1);
    }

    private static void noneForbidden() {
        ArcLight light = Made.alike(3);
        light.mark(0, 0, 1, ArcLight.FORBIDDEN);
        Check.due("trees without the arc 0 to 1", light.trees(0, true), 8);
        light.mark(0, 0, 2, ArcLight.FORBIDDEN);
        Check.due("nor 0 to 2", light.trees(0, true), 3);
        light.mark(0, 0, 3, ArcLight.FORBIDDEN);
        Check.due("none from the root", light.trees(0, true), 0);
        Check.badState("best", () -> light.best(0, true));
        light.mark(0, 0, 3, ArcLight.FREE);
        Check.due("0 to 3 again", light.trees(0, true), 3);
        Made.forbidAll(light, 0, 3);
        light.mark(0, 0, 1, ArcLight.FREE);
        Check.due("none to the word 3", light.trees(0, true), 0);
    }

    /** The trees without crossings are the others of all allowed ones, in the same order. */
    private static void twoWays() {
        ArcLight light = Made.with(0, 1, 0, 1);
        light.setWeight(16, 1);
        light.setWeight(4, -1);
        List<String> plain = new ArrayList<>();
        for (int rank = 0; rank < light.trees(0, true); rank++) {
            int[] heads = new int[5];
            for (int word = 1; word <= 4; word++) {
                heads[word] = light.rankedHead(0, true, rank, word);
            }
            if (Reference.pairs(heads) == 0) {
                plain.add(Made.rankedHeads(light, 0, true, rank));
            }
        }
        Check.due("trees without crossings", light.trees(0, false), plain.size());
        for (int rank = 0; rank < plain.size(); rank++) {
            Check.due("rank " + rank, Made.rankedHeads(light, 0, false, rank), plain.get(rank));
        }
    }

    /** Three words: a tree scores 1 for each arc to the next word to the right. */
    private static void fallingScores() {
        ArcLight light = Made.alike(3);
        light.setWeight(20, 1);
        String[] heads = {
            "[0, 1, 2]",
            "[0, 0, 2]", "[0, 1, 0]", "[0, 1, 1]",
            "[0, 0, 0]", "[0, 0, 1]", "[0, 3, 0]", "[0, 3, 1]", "[2, 0, 2]", "[3, 0, 2]", "[3, 1, 0]",
            "[2, 0, 0]", "[2, 0, 1]", "[2, 3, 0]", "[3, 0, 0]", "[3, 3, 0]",
        };
        int[] scores = {3, 2, 2, 2, 1, 1, 1, 1, 1, 1, 1, 0, 0, 0, 0, 0};
        dueRanks(light, true, heads, scores);
        light.setWeight(20, -1);
        String[] turned = new String[16];
        int[] turnedScores = new int[16];
        int[] from = {11, 12, 13, 14, 15, 4, 5, 6, 7, 8, 9, 10, 1, 2, 3, 0};
        for (int rank = 0; rank < 16; rank++) {
            turned[rank] = heads[from[rank]];
            turnedScores[rank] = -scores[from[rank]];
        }
        dueRanks(light, true, turned, turnedScores);
    }

    private static void dueRanks(ArcLight light, boolean crossing, String[] heads, int[] scores) {
        Check.due("trees", light.trees(0, crossing), heads.length);
        for (int rank = 0; rank < heads.length; rank++) {
            Check.due("heads of rank " + rank, Made.rankedHeads(light, 0, crossing, rank), heads[rank]);
            Check.due("score of rank " + rank, light.ranked(0, crossing, rank), scores[rank]);
        }
    }

    private static void sameScore() {
        dueRanks(Made.alike(3), true, new String[] {
            "[0, 0, 0]", "[0, 0, 1]", "[0, 0, 2]", "[0, 1, 0]", "[0, 1, 1]", "[0, 1, 2]", "[0, 3, 0]", "[0, 3, 1]",
            "[2, 0, 0]", "[2, 0, 1]", "[2, 0, 2]", "[2, 3, 0]", "[3, 0, 0]", "[3, 0, 2]", "[3, 1, 0]", "[3, 3, 0]",
        }, new int[16]);
    }

    private static void sameScorePlain() {
        dueRanks(Made.alike(3), false, new String[] {
            "[0, 0, 0]", "[0, 0, 2]", "[0, 1, 0]", "[0, 1, 1]", "[0, 1, 2]", "[0, 3, 0]", "[0, 3, 1]",
            "[2, 0, 0]", "[2, 0, 2]", "[2, 3, 0]", "[3, 1, 0]", "[3, 3, 0]",
        }, new int[12]);
    }

    private static void bestIsFirst() {
        ArcLight light = Made.with(0, 1, 2, 0, 1, 2);
        light.setWeight(17, -2);
        light.setWeight(16, -2);
        light.setWeight(18, -2);
        light.setWeight(1, 1);
        light.setWeight(9, 1);
        for (boolean crossing : Made.BOTH_WAYS) {
            Check.due("heads", Made.bestHeads(light, 0, crossing), Made.rankedHeads(light, 0, crossing, 0));
            Check.due("best", light.best(0, crossing), light.ranked(0, crossing, 0));
            Check.due("bestByTrying", light.bestByTrying(0, crossing), light.ranked(0, crossing, 0));
        }
    }

    private static void rightHeads() {
        ArcLight light = Made.alike(6);
        Made.correct(light, 0, 2, 3, 4, 5, 6);
        Check.badState("all but the last told", () -> light.mend(0));
        light.correct(0, 1, 6);
        Check.badState("a circle of six", () -> light.mend(0));
        light.correct(0, 0, 6);
        Check.due("the longest way to the root", light.mend(0), 5);
        Check.due("steps", light.steps(), 1);
    }

    /** The best tree has crossings and is the right one; without crossings nothing would match. */
    private static void mendingComparesCrossing() {
        ArcLight light = Made.with(0, 1, 2, 3);
        light.setWeight(2, 9);
        light.setWeight(7, 9);
        Made.correct(light, 0, 0, 0, 1, 2);
        Check.due("crossings", light.crossings(0), 2);
        Check.due("mend", light.mend(0), 0);
        Check.due("matched", light.matched(0), 4);
    }

    /** Both arcs of the first word share the feature by kinds, which stays as it was. */
    private static void bothFeatures() {
        ArcLight light = Made.alike(3);
        Made.force(light, 0, 2, 0, 0);
        Made.correct(light, 0, 3, 0, 0);
        Check.due("mend", light.mend(0), 1);
        Check.due("by kinds, 1 greater and 1 less", light.weight(0), 0);
        Check.due("by distance of the right arc", light.weight(23), 1);
        Check.due("by distance of the other arc", light.weight(21), -1);
        Check.due("of an arc that does not differ", light.weight(16), 0);
    }

    private static void stepOfNothing() {
        ArcLight light = Made.correct(Made.with(1), 0, 0);
        light.setWeight(17, 6);
        Check.due("mend", light.mend(0), 0);
        Check.due("steps", light.steps(), 1);
        Check.due("average", light.average(17), 6.0);
        light.setWeight(17, 0);
        Check.due("mend again", light.mend(0), 0);
        Check.due("average of two", light.average(17), 3.0);
        Check.due("can be rolled back", light.rollBack(), 3);
        Check.due("average then", light.average(17), 6.0);
    }

    /** Each step makes the weight 1 greater, so it was 1, 2 and 3 behind the steps. */
    private static void behindEachStep() {
        ArcLight light = Made.force(Made.alike(3), 0, 2, 0, 0);
        Made.correct(light, 0, 3, 0, 0);
        double[] averages = {1.0, 1.5, 2.0};
        for (int step = 1; step <= 3; step++) {
            light.mend(0);
            Check.due("average of " + step, light.average(23), averages[step - 1]);
            Check.due("the other one's of " + step, light.average(21), -averages[step - 1]);
        }
        light.setWeight(23, 100);
        Check.due("setting is no step", light.average(23), 2.0);
    }

    private static void latestFirst() {
        ArcLight light = Made.correct(Made.with(0), 0, 0);
        light.setWeight(0, 1);
        light.mend(0);
        light.setWeight(1, 2);
        light.rollBack();
        Check.due("the second setting", light.weight(1), 0);
        Check.due("the step still", light.steps(), 1);
        light.rollBack();
        Check.due("the step", light.steps(), 0);
        Check.due("the first setting still", light.weight(0), 1);
        light.rollBack();
        Check.due("the first setting", light.weight(0), 0);
    }

    private static void twentyKept() {
        ArcLight light = new ArcLight();
        for (int weight = 1; weight <= 20; weight++) {
            light.setWeight(0, weight);
        }
        for (int left = 19; left >= 0; left--) {
            Check.due("left", light.rollBack(), left);
            Check.due("weight", light.weight(0), left);
        }
        Check.badState("no more", light::rollBack);
    }

    private static void forgottenForGood() {
        ArcLight light = new ArcLight();
        for (int weight = 1; weight <= 21; weight++) {
            light.setWeight(0, weight);
        }
        for (int left = 19; left >= 0; left--) {
            Check.due("left", light.rollBack(), left);
        }
        Check.due("behind the first setting", light.weight(0), 1);
        Check.badState("the first setting is forgotten", light::rollBack);
        light.setWeight(0, 50);
        Check.due("a new one", light.rollBack(), 0);
        Check.badState("forgotten still", light::rollBack);
        Check.due("weight", light.weight(0), 1);
    }
}
